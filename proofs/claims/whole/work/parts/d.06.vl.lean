/-! THE V LAYER. An abstract heap h : AH is the list of all cells made since the law's entry (state s0), in the order of their making: the cell k lies at s0.heap.size + k.
V: from the frame at pc with the locals lv, the stack st and the abstract heap h the method M comes to its end (Post answer heap) or throws (PX address class heap). Sp: the same as a contract of a whole method. -/
abbrev AC : Type := (FieldType × vp_A) ⊕ (Nat × List Value)
abbrev AH : Type := List AC
def v_at (s0 : State) (D : va_G) (k : Nat) (c : AC) (H : Heap) : Prop := match c with
  | .inl x => ∃ cA : ClassId, va_K D vwCl [(cA, x.1)] s0 ∧ H[s0.heap.size + k]? = some (vp_cell cA x.2)
  | .inr o => o.1 < 100 → va_at D vwCl (s0.heap.size + k, .inr o) H
def Wd (s0 : State) (D : va_G) (h : AH) (H : Heap) : Prop :=
  H.size = s0.heap.size + h.length ∧ (∀ (k : Nat) (c : AC), h[k]? = some c → v_at s0 D k c H) ∧ ∀ q : Nat, q < s0.heap.size → H[q]? = s0.heap[q]?
/-- the static tables of ints -/
def v_tabs : List (String × String × List Int32) := [("DrawnWays$Layout", "SWAPS", [0, 1, 2, 1, 0, 2, 0, 2, 1, 1, 2, 0, 2, 0, 1, 2, 1, 0]), ("DrawnWays$ExactSum", "PRIMES", [2, 3, 5, 7, 11, 13, 17, 19, 23, 29, 31, 37, 41, 43, 47, 53, 59, 61, 67, 71, 73, 79, 83, 89, 97]), ("DrawnWays$Reckoning", "PRIMES", [1000003, 1000033, 1000037, 1000039])]
def v_SF (s0 : State) : Prop := ∀ q ∈ v_tabs, ∃ a : Nat, va_Z q.1 q.2.1 "[I" (.ref a) (fun z => s0.heap.size ≤ z) s0 s0.heap ∧ va_T .int a q.2.2.length (fun j => .int (v_tf q.2.2 j)) (fun z => s0.heap.size ≤ z) s0 s0.heap
/-- what is known of the law's start -/
def GC (l : Launch) (s0 : State) (D : va_G) (a0 : Array Value) : Prop := va_K D vwCl [] s0 ∧ (∀ w ∈ lw_tbl, w.before a0 s0 = true) ∧ l.stackTraces = false ∧ v_SF s0
abbrev v_A (s0 : State) : Nat → Prop := fun q => s0.heap.size ≤ q
def v_Fx (p : Program) (s0 s : State) (m : MethodId) (args : Array Value) (meth : Method) (c : Code) (M : MI) : Prop :=
  p.tables.exec = Jvm.exec ∧ c.code = M.2.1 ∧ c.maxLocals = M.2.2.1 ∧ s.vm.findClass M.1.cls = some m.cls ∧ meth.sig.returnType = M.2.2.2.1 ∧ meth.locks = false ∧ c.exceptionTable.toList = M.2.2.2.2 ∧ meth.name = M.1.name ∧ (∀ w ∈ gw, w.before args s = true) ∧ s0.WarmedH s.vm
def v_R (M : MI) (pc : Nat) (v : Option Value) : Prop :=
  (v = none ∧ M.2.2.2.1 = none ∧ decode M.2.1 pc = .ok (.return_, 1)) ∨
  (∃ (x : Int32) (ty : FieldType), v = some (.int x) ∧ M.2.2.2.1 = some ty ∧ narrow ty (.int x) = .int x ∧ decode M.2.1 pc = .ok (.ireturn, 1)) ∨
  (∃ x : Int64, v = some (.long x) ∧ M.2.2.2.1 = some .long ∧ decode M.2.1 pc = .ok (.lreturn, 1)) ∨
  (∃ (a : Nat) (n : String), v = some (.ref a) ∧ M.2.2.2.1 = some (.object n) ∧ decode M.2.1 pc = .ok (.areturn, 1))
def v_Fin (l : Launch) (s0 : State) (D : va_G) (p : Program) (e : Env) (R : Room) (s : State) (m : MethodId) (args : Array Value) (below : List Frame) (meth : Method) (c : Code) (Q : State → Prop) (M : MI) (Post : Option Value → AH → Prop) (PX : Nat → String → AH → Prop) : Prop :=
  (∀ (v : Option Value) (h : AH) (H : Heap) (locs : List Loc) (cells slots pc : Nat) (ls : Array Slot), Post v h → Wd s0 D h H → va_S (v_A s0) s.heap H locs → cells ≤ R.cells → slots ≤ R.slots → v_R M pc v → W p l e R s m args below meth c H locs cells slots Q (F0 m pc ls v.toList)) ∧
  ∀ (q : Nat) (E : String) (ce : Cell) (h : AH) (H : Heap) (locs : List Loc) (cells slots pc : Nat) (ls : Array Slot) (st : List Value), PX q E h → Wd s0 D h H → va_S (v_A s0) s.heap H locs → cells ≤ R.cells → slots ≤ R.slots → H[q]? = some ce → ce.vm = .none → s.vm.findClass E = some ce.cls → (∀ x ∈ M.2.2.2.2, covers x pc = false) → vx_W p l e R s m args below meth c H locs cells slots Q (F0 m pc ls st) q
def V (l : Launch) (s0 : State) (D : va_G) (d mc ms : Nat) (M : MI) (Post : Option Value → AH → Prop) (PX : Nat → String → AH → Prop) (pc : Nat) (lv : List (Nat × Value)) (st : List Value) (h : AH) : Prop :=
  ∀ (p : Program) (e : Env) (R : Room) (s : State) (m : MethodId) (args : Array Value) (below : List Frame) (meth : Method) (c : Code) (H : Heap) (locs : List Loc) (cells slots : Nat) (ls : Array Slot) (Q : State → Prop),
    v_Fx p s0 s m args meth c M → d ≤ R.frames → 64 * d ≤ R.locals → cells + mc ≤ R.cells → slots + ms ≤ R.slots → v_Fin l s0 D p e R s m args below meth c Q M Post PX → Wd s0 D h H → va_S (v_A s0) s.heap H locs → lv_has ls M.2.2.1 lv →
    W p l e R s m args below meth c H locs cells slots Q (F0 m pc ls st)
def v_rm (d mc ms : Nat) : Room := { frames := d, cells := mc, slots := ms, locals := 64 * d }
def v_ws (M : MI) : List Cond := Cond.code M.1 M.2.1 M.2.2.1 M.2.2.2.1 :: gw
def v_Pc (s0 : State) (D : va_G) (as : List Value) (h : AH) : Array Value → State → Prop := va_Pc as (fun U => Wd s0 D h U.heap ∧ s0.WarmedH U.vm)
def v_Qc (s0 : State) (D : va_G) (Post : Option Value → AH → Prop) : Array Value → State → Outcome → State → Prop := fun _ st o t => ∃ (v : Option Value) (h : AH), o = .returned v ∧ Post v h ∧ Wd s0 D h t.heap ∧ va_F (v_A s0) st t
def v_XC (s0 : State) (D : va_G) (PX : Nat → String → AH → Prop) : Addr → String → State → State → Prop := fun q E st t => ∃ h : AH, PX q E h ∧ Wd s0 D h t.heap ∧ va_F (v_A s0) st t
def Sp (l : Launch) (s0 : State) (D : va_G) (d mc ms : Nat) (M : MI) (Post : Option Value → AH → Prop) (PX : Nat → String → AH → Prop) (as : List Value) (h : AH) : Prop :=
  vx_Met l M.1 (v_ws M) (v_rm d mc ms) (v_Pc s0 D as h) (v_Qc s0 D Post) (v_XC s0 D PX) mc ms (v_A s0)
abbrev v_noX : Nat → String → AH → Prop := fun _ _ _ => False
def v_get : List (Nat × Value) → Nat → Option Value
  | [], _ => none
  | q :: t, i => bif Nat.beq q.1 i then some q.2 else v_get t i
theorem v_get_mem {i : Nat} {v : Value} : ∀ {lv : List (Nat × Value)}, v_get lv i = some v → (i, v) ∈ lv
  | [], h => by simp [v_get] at h
  | q :: t, h => by
    unfold v_get at h
    by_cases hb : Nat.beq q.1 i = true
    · rw [hb] at h
      have e1 : q.1 = i := Nat.eq_of_beq_eq_true hb
      have e2 : q.2 = v := Option.some.inj h
      rw [← e1, ← e2]
      exact List.mem_cons_self
    · have hb' : Nat.beq q.1 i = false := by
        cases hx : Nat.beq q.1 i with
        | true => exact absurd hx hb
        | false => rfl
      rw [hb'] at h
      exact List.mem_cons_of_mem _ (v_get_mem h)
theorem v_loc {ls : Array Slot} {nL i : Nat} {lv : List (Nat × Value)} {v : Value} (hl : lv_has ls nL lv) (h : v_get lv i = some v) : ls[i]? = some (.val v) := hl.2.2 _ (v_get_mem h)
def v_st1 (lv : List (Nat × Value)) (i : Nat) (v : Value) : List (Nat × Value) := (i, v) :: lv.filter (fun q => !(q.1 == i) && !(q.1 + 1 == i && q.2.category == 2))
def v_st2 (lv : List (Nat × Value)) (i : Nat) (v : Value) : List (Nat × Value) := (i, v) :: lv.filter (fun q => !(q.1 == i) && (!(q.1 == i + 1) && !(q.1 + 1 == i && q.2.category == 2)))
def v_all (lv : List (Nat × Value)) : List (Nat × Value) → Prop
  | [] => True
  | q :: t => v_get lv q.1 = some q.2 ∧ v_all lv t
theorem v_all_has {ls : Array Slot} {nL : Nat} {lv lv' : List (Nat × Value)} (hl : lv_has ls nL lv) (h : v_all lv lv') : lv_has ls nL lv' := by
  refine ⟨hl.1, hl.2.1, ?_⟩
  induction lv' with
  | nil => exact fun q hq => nomatch hq
  | cons q t ih =>
    intro q2 hq
    rcases List.mem_cons.mp hq with rfl | hq
    · exact v_loc hl h.1
    · exact ih h.2 q2 hq
theorem Wd.set {s0 : State} {D : va_G} {h : AH} {H H1 : Heap} {k : Nat} {c c1 : AC} (w : Wd s0 D h H) (hk : h[k]? = some c) (z : H1.size = H.size) (o : ∀ q : Nat, q ≠ s0.heap.size + k → H1[q]? = H[q]?) (hc : v_at s0 D k c1 H1) : Wd s0 D (h.set k c1) H1 := by
  have hlt : k < h.length := (List.getElem?_eq_some_iff.mp hk).1
  refine ⟨by rw [z, List.length_set]; exact w.1, fun j cj hj => ?_, fun q hq => by rw [o q (by omega)]; exact w.2.2 q hq⟩
  by_cases e : k = j
  · subst e
    rw [List.getElem?_set_self hlt] at hj
    cases hj
    exact hc
  · rw [List.getElem?_set_ne e] at hj
    have h1 := w.2.1 j cj hj
    have h2 : H1[s0.heap.size + j]? = H[s0.heap.size + j]? := o _ (by omega)
    cases cj with
    | inl x =>
      obtain ⟨cA, hK, hc⟩ := h1
      exact ⟨cA, hK, by rw [h2]; exact hc⟩
    | inr y => exact fun hy => (h1 hy).kept h2
theorem Wd.push {s0 : State} {D : va_G} {h : AH} {H H1 : Heap} {c1 : AC} (w : Wd s0 D h H) (z : H1.size = H.size + 1) (o : ∀ q : Nat, q < H.size → H1[q]? = H[q]?) (hc : v_at s0 D h.length c1 H1) : Wd s0 D (h ++ [c1]) H1 := by
  refine ⟨by rw [z, w.1, List.length_append]; rfl, fun j cj hj => ?_, fun q hq => by rw [o q (by have := w.1; omega)]; exact w.2.2 q hq⟩
  by_cases e : j < h.length
  · rw [List.getElem?_append_left e] at hj
    have h1 := w.2.1 j cj hj
    have h2 : H1[s0.heap.size + j]? = H[s0.heap.size + j]? := o _ (by have := w.1; omega)
    cases cj with
    | inl x =>
      obtain ⟨cA, hK, hc⟩ := h1
      exact ⟨cA, hK, by rw [h2]; exact hc⟩
    | inr y => exact fun hy => (h1 hy).kept h2
  · have e2 : j = h.length := by
      have := (List.getElem?_eq_some_iff.mp hj).1
      rw [List.length_append] at this
      simp at this
      omega
    subst e2
    rw [List.getElem?_concat_length] at hj
    cases hj
    exact hc
theorem v_P1 {s0 : State} {D : va_G} {h : AH} {H : Heap} {k : Nat} {o : Nat × List Value} (w : Wd s0 D h H) (hk : h[k]? = some (.inr o)) (ho : o.1 < 100) : va_P D vwCl [(s0.heap.size + k, .inr o)] H := by
  intro i q hq
  match i, hq with
  | 0, hq => cases hq; exact w.2.1 k _ hk ho
theorem v_PA {s0 : State} {D : va_G} {h : AH} {H : Heap} {k : Nat} {x : FieldType × vp_A} (w : Wd s0 D h H) (hk : h[k]? = some (.inl x)) : ∃ cA : ClassId, va_K D vwCl [(cA, x.1)] s0 ∧ va_P D vwCl [(s0.heap.size + k, .inl (cA, x.2))] H := by
  obtain ⟨cA, hK, hc⟩ := w.2.1 k _ hk
  refine ⟨cA, hK, fun i q hq => ?_⟩
  match i, hq with
  | 0, hq => cases hq; exact hc
theorem v_nest {l : Launch} {s0 s : State} {D : va_G} {a0 args : Array Value} {own : String} {idx : Nat} {b n dd host : String} (G : GC l s0 D a0) (hW : s0.WarmedH s.vm) (h : Cond.fieldLinkNest own idx b n dd host ∈ lw_tbl) : (Cond.fieldLinkNest own idx b n dd host).before args s = true := va_Nw.use rfl (va_Nw.warmF hW (va_Nw.of rfl (G.2.1 _ h)))

section VL
variable {l : Launch} {s0 : State} {D : va_G} {d mc ms : Nat} {M : MI} {Post : Option Value → AH → Prop} {PX : Nat → String → AH → Prop} {pc : Nat} {lv : List (Nat × Value)} {st : List Value} {h : AH} {a0 : Array Value}
theorem V_iconst {n : Int} {v : Int32} (hd : decode M.2.1 pc = .ok (.iconst n, 1)) (hv : Int32.ofInt n = v) (k : V l s0 D d mc ms M Post PX (pc + 1) lv (.int v :: st) h) : V l s0 D d mc ms M Post PX pc lv (st) h :=
  fun p e R s m args below meth c H locs cells slots ls Q F r1 r2 r3 r4 fin w hS hl => lv_iconst F.1 F.2.1 hd hv (k p e R s m args below meth c H locs cells slots ls Q F r1 r2 r3 r4 fin w hS hl)
theorem V_bipush {n : Int} {v : Int32} (hd : decode M.2.1 pc = .ok (.bipush n, 2)) (hv : (Int8.ofInt n).toInt32 = v) (k : V l s0 D d mc ms M Post PX (pc + 2) lv (.int v :: st) h) : V l s0 D d mc ms M Post PX pc lv (st) h :=
  fun p e R s m args below meth c H locs cells slots ls Q F r1 r2 r3 r4 fin w hS hl => lv_bipush F.1 F.2.1 hd hv (k p e R s m args below meth c H locs cells slots ls Q F r1 r2 r3 r4 fin w hS hl)
theorem V_sipush {n : Int} {v : Int32} (hd : decode M.2.1 pc = .ok (.sipush n, 3)) (hv : (Int16.ofInt n).toInt32 = v) (k : V l s0 D d mc ms M Post PX (pc + 3) lv (.int v :: st) h) : V l s0 D d mc ms M Post PX pc lv (st) h :=
  fun p e R s m args below meth c H locs cells slots ls Q F r1 r2 r3 r4 fin w hS hl => lv_sipush F.1 F.2.1 hd hv (k p e R s m args below meth c H locs cells slots ls Q F r1 r2 r3 r4 fin w hS hl)
theorem V_lconst {n : Fin 2} {v : Int64} (hd : decode M.2.1 pc = .ok (.lconst n, 1)) (hv : Int64.ofNat (n : Nat) = v) (k : V l s0 D d mc ms M Post PX (pc + 1) lv (.long v :: st) h) : V l s0 D d mc ms M Post PX pc lv (st) h :=
  fun p e R s m args below meth c H locs cells slots ls Q F r1 r2 r3 r4 fin w hS hl => lv_lconst F.1 F.2.1 hd hv (k p e R s m args below meth c H locs cells slots ls Q F r1 r2 r3 r4 fin w hS hl)
theorem V_null  (hd : decode M.2.1 pc = .ok (.aconst_null, 1))  (k : V l s0 D d mc ms M Post PX (pc + 1) lv (.null :: st) h) : V l s0 D d mc ms M Post PX pc lv (st) h :=
  fun p e R s m args below meth c H locs cells slots ls Q F r1 r2 r3 r4 fin w hS hl => lv_null F.1 F.2.1 hd (k p e R s m args below meth c H locs cells slots ls Q F r1 r2 r3 r4 fin w hS hl)
theorem V_ldc {index : Nat} {v : Int32} (hd : decode M.2.1 pc = .ok (.ldc index, 2)) (hc : Cond.constant M.1.cls index v ∈ gw) (k : V l s0 D d mc ms M Post PX (pc + 2) lv (.int v :: st) h) : V l s0 D d mc ms M Post PX pc lv (st) h :=
  fun p e R s m args below meth c H locs cells slots ls Q F r1 r2 r3 r4 fin w hS hl => lv_ldc F.1 F.2.1 F.2.2.2.1 (F.2.2.2.2.2.2.2.2.1 _ hc) hd (k p e R s m args below meth c H locs cells slots ls Q F r1 r2 r3 r4 fin w hS hl)
theorem V_ldcw {index : Nat} {v : Int32} (hd : decode M.2.1 pc = .ok (.ldc_w index, 3)) (hc : Cond.constant M.1.cls index v ∈ gw) (k : V l s0 D d mc ms M Post PX (pc + 3) lv (.int v :: st) h) : V l s0 D d mc ms M Post PX pc lv (st) h :=
  fun p e R s m args below meth c H locs cells slots ls Q F r1 r2 r3 r4 fin w hS hl => lv_ldcw F.1 F.2.1 F.2.2.2.1 (F.2.2.2.2.2.2.2.2.1 _ hc) hd (k p e R s m args below meth c H locs cells slots ls Q F r1 r2 r3 r4 fin w hS hl)
theorem V_ldc2 {index : Nat} {v : Int64} (hd : decode M.2.1 pc = .ok (.ldc2_w index, 3)) (hc : Cond.constantLong M.1.cls index v ∈ gw) (k : V l s0 D d mc ms M Post PX (pc + 3) lv (.long v :: st) h) : V l s0 D d mc ms M Post PX pc lv (st) h :=
  fun p e R s m args below meth c H locs cells slots ls Q F r1 r2 r3 r4 fin w hS hl => lv_ldc2 F.1 F.2.1 F.2.2.2.1 (F.2.2.2.2.2.2.2.2.1 _ hc) hd (k p e R s m args below meth c H locs cells slots ls Q F r1 r2 r3 r4 fin w hS hl)
theorem V_iload_n {i : Fin 4} {x : Int32} (hd : decode M.2.1 pc = .ok (.iload_n i, 1)) (hv : v_get lv (i : Nat) = some (.int x)) (k : V l s0 D d mc ms M Post PX (pc + 1) lv (.int x :: st) h) : V l s0 D d mc ms M Post PX pc lv (st) h :=
  fun p e R s m args below meth c H locs cells slots ls Q F r1 r2 r3 r4 fin w hS hl => lv_iload_n F.1 F.2.1 hd rfl (v_loc hl hv) (k p e R s m args below meth c H locs cells slots ls Q F r1 r2 r3 r4 fin w hS hl)
theorem V_iload {i : Nat} {x : Int32} (hd : decode M.2.1 pc = .ok (.iload i, 2)) (hv : v_get lv i = some (.int x)) (k : V l s0 D d mc ms M Post PX (pc + 2) lv (.int x :: st) h) : V l s0 D d mc ms M Post PX pc lv (st) h :=
  fun p e R s m args below meth c H locs cells slots ls Q F r1 r2 r3 r4 fin w hS hl => lv_iload F.1 F.2.1 hd (v_loc hl hv) (k p e R s m args below meth c H locs cells slots ls Q F r1 r2 r3 r4 fin w hS hl)
theorem V_lload_n {i : Fin 4} {x : Int64} (hd : decode M.2.1 pc = .ok (.lload_n i, 1)) (hv : v_get lv (i : Nat) = some (.long x)) (k : V l s0 D d mc ms M Post PX (pc + 1) lv (.long x :: st) h) : V l s0 D d mc ms M Post PX pc lv (st) h :=
  fun p e R s m args below meth c H locs cells slots ls Q F r1 r2 r3 r4 fin w hS hl => lv_lload_n F.1 F.2.1 hd rfl (v_loc hl hv) (k p e R s m args below meth c H locs cells slots ls Q F r1 r2 r3 r4 fin w hS hl)
theorem V_lload {i : Nat} {x : Int64} (hd : decode M.2.1 pc = .ok (.lload i, 2)) (hv : v_get lv i = some (.long x)) (k : V l s0 D d mc ms M Post PX (pc + 2) lv (.long x :: st) h) : V l s0 D d mc ms M Post PX pc lv (st) h :=
  fun p e R s m args below meth c H locs cells slots ls Q F r1 r2 r3 r4 fin w hS hl => lv_lload F.1 F.2.1 hd (v_loc hl hv) (k p e R s m args below meth c H locs cells slots ls Q F r1 r2 r3 r4 fin w hS hl)
theorem V_aload_n {i : Fin 4} {a : Nat} (hd : decode M.2.1 pc = .ok (.aload_n i, 1)) (hv : v_get lv (i : Nat) = some (.ref a)) (k : V l s0 D d mc ms M Post PX (pc + 1) lv (.ref a :: st) h) : V l s0 D d mc ms M Post PX pc lv (st) h :=
  fun p e R s m args below meth c H locs cells slots ls Q F r1 r2 r3 r4 fin w hS hl => lv_aload_n F.1 F.2.1 hd rfl (v_loc hl hv) (k p e R s m args below meth c H locs cells slots ls Q F r1 r2 r3 r4 fin w hS hl)
theorem V_aload {i : Nat} {a : Nat} (hd : decode M.2.1 pc = .ok (.aload i, 2)) (hv : v_get lv i = some (.ref a)) (k : V l s0 D d mc ms M Post PX (pc + 2) lv (.ref a :: st) h) : V l s0 D d mc ms M Post PX pc lv (st) h :=
  fun p e R s m args below meth c H locs cells slots ls Q F r1 r2 r3 r4 fin w hS hl => lv_aload F.1 F.2.1 hd (v_loc hl hv) (k p e R s m args below meth c H locs cells slots ls Q F r1 r2 r3 r4 fin w hS hl)
theorem V_aload_nN {i : Fin 4} (hd : decode M.2.1 pc = .ok (.aload_n i, 1)) (hv : v_get lv (i : Nat) = some .null) (k : V l s0 D d mc ms M Post PX (pc + 1) lv (.null :: st) h) : V l s0 D d mc ms M Post PX pc lv (st) h :=
  fun p e R s m args below meth c H locs cells slots ls Q F r1 r2 r3 r4 fin w hS hl => lv_aload_nN F.1 F.2.1 hd rfl (v_loc hl hv) (k p e R s m args below meth c H locs cells slots ls Q F r1 r2 r3 r4 fin w hS hl)
theorem V_istore_n {i : Fin 4} {x : Int32} (hd : decode M.2.1 pc = .ok (.istore_n i, 1)) (hn : (i : Nat) < M.2.2.1) (k : V l s0 D d mc ms M Post PX (pc + 1) (v_st1 lv (i : Nat) (.int x)) st h) : V l s0 D d mc ms M Post PX pc lv (.int x :: st) h :=
  fun p e R s m args below meth c H locs cells slots ls Q F r1 r2 r3 r4 fin w hS hl => lv_istore_n F.1 F.2.1 hd rfl hl hn rfl (fun ls hl => k p e R s m args below meth c H locs cells slots ls Q F r1 r2 r3 r4 fin w hS hl)
theorem V_istore {i : Nat} {x : Int32} (hd : decode M.2.1 pc = .ok (.istore i, 2)) (hn : (i : Nat) < M.2.2.1) (k : V l s0 D d mc ms M Post PX (pc + 2) (v_st1 lv (i : Nat) (.int x)) st h) : V l s0 D d mc ms M Post PX pc lv (.int x :: st) h :=
  fun p e R s m args below meth c H locs cells slots ls Q F r1 r2 r3 r4 fin w hS hl => lv_istore F.1 F.2.1 hd hl hn rfl (fun ls hl => k p e R s m args below meth c H locs cells slots ls Q F r1 r2 r3 r4 fin w hS hl)
theorem V_lstore_n {i : Fin 4} {x : Int64} (hd : decode M.2.1 pc = .ok (.lstore_n i, 1)) (hn : (i : Nat) + 1 < M.2.2.1) (k : V l s0 D d mc ms M Post PX (pc + 1) (v_st2 lv (i : Nat) (.long x)) st h) : V l s0 D d mc ms M Post PX pc lv (.long x :: st) h :=
  fun p e R s m args below meth c H locs cells slots ls Q F r1 r2 r3 r4 fin w hS hl => lv_lstore_n F.1 F.2.1 hd rfl hl hn rfl (fun ls hl => k p e R s m args below meth c H locs cells slots ls Q F r1 r2 r3 r4 fin w hS hl)
theorem V_lstore {i : Nat} {x : Int64} (hd : decode M.2.1 pc = .ok (.lstore i, 2)) (hn : (i : Nat) + 1 < M.2.2.1) (k : V l s0 D d mc ms M Post PX (pc + 2) (v_st2 lv (i : Nat) (.long x)) st h) : V l s0 D d mc ms M Post PX pc lv (.long x :: st) h :=
  fun p e R s m args below meth c H locs cells slots ls Q F r1 r2 r3 r4 fin w hS hl => lv_lstore F.1 F.2.1 hd hl hn rfl (fun ls hl => k p e R s m args below meth c H locs cells slots ls Q F r1 r2 r3 r4 fin w hS hl)
theorem V_astore_n {i : Fin 4} {a : Nat} (hd : decode M.2.1 pc = .ok (.astore_n i, 1)) (hn : (i : Nat) < M.2.2.1) (k : V l s0 D d mc ms M Post PX (pc + 1) (v_st1 lv (i : Nat) (.ref a)) st h) : V l s0 D d mc ms M Post PX pc lv (.ref a :: st) h :=
  fun p e R s m args below meth c H locs cells slots ls Q F r1 r2 r3 r4 fin w hS hl => lv_astore_n F.1 F.2.1 hd rfl hl hn rfl (fun ls hl => k p e R s m args below meth c H locs cells slots ls Q F r1 r2 r3 r4 fin w hS hl)
theorem V_astore {i : Nat} {a : Nat} (hd : decode M.2.1 pc = .ok (.astore i, 2)) (hn : (i : Nat) < M.2.2.1) (k : V l s0 D d mc ms M Post PX (pc + 2) (v_st1 lv (i : Nat) (.ref a)) st h) : V l s0 D d mc ms M Post PX pc lv (.ref a :: st) h :=
  fun p e R s m args below meth c H locs cells slots ls Q F r1 r2 r3 r4 fin w hS hl => lv_astore F.1 F.2.1 hd hl hn rfl (fun ls hl => k p e R s m args below meth c H locs cells slots ls Q F r1 r2 r3 r4 fin w hS hl)
theorem V_astore_nN {i : Fin 4} (hd : decode M.2.1 pc = .ok (.astore_n i, 1)) (hn : (i : Nat) < M.2.2.1) (k : V l s0 D d mc ms M Post PX (pc + 1) (v_st1 lv (i : Nat) (.null)) st h) : V l s0 D d mc ms M Post PX pc lv (.null :: st) h :=
  fun p e R s m args below meth c H locs cells slots ls Q F r1 r2 r3 r4 fin w hS hl => lv_astore_nN F.1 F.2.1 hd rfl hl hn rfl (fun ls hl => k p e R s m args below meth c H locs cells slots ls Q F r1 r2 r3 r4 fin w hS hl)
theorem V_iinc {i : Nat} {n : Int} {x v : Int32} (hd : decode M.2.1 pc = .ok (.iinc i n, 3)) (hv : v_get lv i = some (.int x)) (hn : i < M.2.2.1) (hw : Int32.ofInt n = v) (k : V l s0 D d mc ms M Post PX (pc + 3) (v_st1 lv i (.int (x + v))) st h) : V l s0 D d mc ms M Post PX pc lv st h := by
  subst hw
  intro p e R s m args below meth c H locs cells slots ls Q F r1 r2 r3 r4 fin w hS hl
  obtain ⟨kk, hk⟩ := List.getElem?_of_mem (v_get_mem hv)
  exact lv_iinc F.1 F.2.1 hd hl hk rfl hn rfl (fun ls hl => k p e R s m args below meth c H locs cells slots ls Q F r1 r2 r3 r4 fin w hS hl)
theorem V_iadd {x y : Int32} (hd : decode M.2.1 pc = .ok (.iadd, 1))  (k : V l s0 D d mc ms M Post PX (pc + 1) lv (.int (x + y) :: st) h) : V l s0 D d mc ms M Post PX pc lv (.int y :: .int x :: st) h :=
  fun p e R s m args below meth c H locs cells slots ls Q F r1 r2 r3 r4 fin w hS hl => lv_iadd F.1 F.2.1 hd (k p e R s m args below meth c H locs cells slots ls Q F r1 r2 r3 r4 fin w hS hl)
theorem V_isub {x y : Int32} (hd : decode M.2.1 pc = .ok (.isub, 1))  (k : V l s0 D d mc ms M Post PX (pc + 1) lv (.int (x - y) :: st) h) : V l s0 D d mc ms M Post PX pc lv (.int y :: .int x :: st) h :=
  fun p e R s m args below meth c H locs cells slots ls Q F r1 r2 r3 r4 fin w hS hl => lv_isub F.1 F.2.1 hd (k p e R s m args below meth c H locs cells slots ls Q F r1 r2 r3 r4 fin w hS hl)
theorem V_imul {x y : Int32} (hd : decode M.2.1 pc = .ok (.imul, 1))  (k : V l s0 D d mc ms M Post PX (pc + 1) lv (.int (x * y) :: st) h) : V l s0 D d mc ms M Post PX pc lv (.int y :: .int x :: st) h :=
  fun p e R s m args below meth c H locs cells slots ls Q F r1 r2 r3 r4 fin w hS hl => lv_imul F.1 F.2.1 hd (k p e R s m args below meth c H locs cells slots ls Q F r1 r2 r3 r4 fin w hS hl)
theorem V_iand {x y : Int32} (hd : decode M.2.1 pc = .ok (.iand, 1))  (k : V l s0 D d mc ms M Post PX (pc + 1) lv (.int (x &&& y) :: st) h) : V l s0 D d mc ms M Post PX pc lv (.int y :: .int x :: st) h :=
  fun p e R s m args below meth c H locs cells slots ls Q F r1 r2 r3 r4 fin w hS hl => lv_iand F.1 F.2.1 hd (k p e R s m args below meth c H locs cells slots ls Q F r1 r2 r3 r4 fin w hS hl)
theorem V_ior {x y : Int32} (hd : decode M.2.1 pc = .ok (.ior, 1))  (k : V l s0 D d mc ms M Post PX (pc + 1) lv (.int (x ||| y) :: st) h) : V l s0 D d mc ms M Post PX pc lv (.int y :: .int x :: st) h :=
  fun p e R s m args below meth c H locs cells slots ls Q F r1 r2 r3 r4 fin w hS hl => lv_ior F.1 F.2.1 hd (k p e R s m args below meth c H locs cells slots ls Q F r1 r2 r3 r4 fin w hS hl)
theorem V_ixor {x y : Int32} (hd : decode M.2.1 pc = .ok (.ixor, 1))  (k : V l s0 D d mc ms M Post PX (pc + 1) lv (.int (x ^^^ y) :: st) h) : V l s0 D d mc ms M Post PX pc lv (.int y :: .int x :: st) h :=
  fun p e R s m args below meth c H locs cells slots ls Q F r1 r2 r3 r4 fin w hS hl => lv_ixor F.1 F.2.1 hd (k p e R s m args below meth c H locs cells slots ls Q F r1 r2 r3 r4 fin w hS hl)
theorem V_ladd {x y : Int64} (hd : decode M.2.1 pc = .ok (.ladd, 1))  (k : V l s0 D d mc ms M Post PX (pc + 1) lv (.long (x + y) :: st) h) : V l s0 D d mc ms M Post PX pc lv (.long y :: .long x :: st) h :=
  fun p e R s m args below meth c H locs cells slots ls Q F r1 r2 r3 r4 fin w hS hl => lv_ladd F.1 F.2.1 hd (k p e R s m args below meth c H locs cells slots ls Q F r1 r2 r3 r4 fin w hS hl)
theorem V_lsub {x y : Int64} (hd : decode M.2.1 pc = .ok (.lsub, 1))  (k : V l s0 D d mc ms M Post PX (pc + 1) lv (.long (x - y) :: st) h) : V l s0 D d mc ms M Post PX pc lv (.long y :: .long x :: st) h :=
  fun p e R s m args below meth c H locs cells slots ls Q F r1 r2 r3 r4 fin w hS hl => lv_lsub F.1 F.2.1 hd (k p e R s m args below meth c H locs cells slots ls Q F r1 r2 r3 r4 fin w hS hl)
theorem V_lmul {x y : Int64} (hd : decode M.2.1 pc = .ok (.lmul, 1))  (k : V l s0 D d mc ms M Post PX (pc + 1) lv (.long (x * y) :: st) h) : V l s0 D d mc ms M Post PX pc lv (.long y :: .long x :: st) h :=
  fun p e R s m args below meth c H locs cells slots ls Q F r1 r2 r3 r4 fin w hS hl => lv_lmul F.1 F.2.1 hd (k p e R s m args below meth c H locs cells slots ls Q F r1 r2 r3 r4 fin w hS hl)
theorem V_land {x y : Int64} (hd : decode M.2.1 pc = .ok (.land, 1))  (k : V l s0 D d mc ms M Post PX (pc + 1) lv (.long (x &&& y) :: st) h) : V l s0 D d mc ms M Post PX pc lv (.long y :: .long x :: st) h :=
  fun p e R s m args below meth c H locs cells slots ls Q F r1 r2 r3 r4 fin w hS hl => lv_land F.1 F.2.1 hd (k p e R s m args below meth c H locs cells slots ls Q F r1 r2 r3 r4 fin w hS hl)
theorem V_lor {x y : Int64} (hd : decode M.2.1 pc = .ok (.lor, 1))  (k : V l s0 D d mc ms M Post PX (pc + 1) lv (.long (x ||| y) :: st) h) : V l s0 D d mc ms M Post PX pc lv (.long y :: .long x :: st) h :=
  fun p e R s m args below meth c H locs cells slots ls Q F r1 r2 r3 r4 fin w hS hl => lv_lor F.1 F.2.1 hd (k p e R s m args below meth c H locs cells slots ls Q F r1 r2 r3 r4 fin w hS hl)
theorem V_lxor {x y : Int64} (hd : decode M.2.1 pc = .ok (.lxor, 1))  (k : V l s0 D d mc ms M Post PX (pc + 1) lv (.long (x ^^^ y) :: st) h) : V l s0 D d mc ms M Post PX pc lv (.long y :: .long x :: st) h :=
  fun p e R s m args below meth c H locs cells slots ls Q F r1 r2 r3 r4 fin w hS hl => lv_lxor F.1 F.2.1 hd (k p e R s m args below meth c H locs cells slots ls Q F r1 r2 r3 r4 fin w hS hl)
theorem V_idiv {x y : Int32} (hd : decode M.2.1 pc = .ok (.idiv, 1)) (hne : ¬ y = 0) (k : V l s0 D d mc ms M Post PX (pc + 1) lv (.int (x / y) :: st) h) : V l s0 D d mc ms M Post PX pc lv (.int y :: .int x :: st) h :=
  fun p e R s m args below meth c H locs cells slots ls Q F r1 r2 r3 r4 fin w hS hl => lv_idiv F.1 F.2.1 hd hne (k p e R s m args below meth c H locs cells slots ls Q F r1 r2 r3 r4 fin w hS hl)
theorem V_ldiv {x y : Int64} (hd : decode M.2.1 pc = .ok (.ldiv, 1)) (hne : ¬ y = 0) (k : V l s0 D d mc ms M Post PX (pc + 1) lv (.long (x / y) :: st) h) : V l s0 D d mc ms M Post PX pc lv (.long y :: .long x :: st) h :=
  fun p e R s m args below meth c H locs cells slots ls Q F r1 r2 r3 r4 fin w hS hl => lv_ldiv F.1 F.2.1 hd hne (k p e R s m args below meth c H locs cells slots ls Q F r1 r2 r3 r4 fin w hS hl)
theorem V_irem {x y : Int32} (hd : decode M.2.1 pc = .ok (.irem, 1)) (hne : ¬ y = 0) (k : V l s0 D d mc ms M Post PX (pc + 1) lv (.int (x - x / y * y) :: st) h) : V l s0 D d mc ms M Post PX pc lv (.int y :: .int x :: st) h :=
  fun p e R s m args below meth c H locs cells slots ls Q F r1 r2 r3 r4 fin w hS hl => lv_irem F.1 F.2.1 hd hne (k p e R s m args below meth c H locs cells slots ls Q F r1 r2 r3 r4 fin w hS hl)
theorem V_lrem {x y : Int64} (hd : decode M.2.1 pc = .ok (.lrem, 1)) (hne : ¬ y = 0) (k : V l s0 D d mc ms M Post PX (pc + 1) lv (.long (x - x / y * y) :: st) h) : V l s0 D d mc ms M Post PX pc lv (.long y :: .long x :: st) h :=
  fun p e R s m args below meth c H locs cells slots ls Q F r1 r2 r3 r4 fin w hS hl => lv_lrem F.1 F.2.1 hd hne (k p e R s m args below meth c H locs cells slots ls Q F r1 r2 r3 r4 fin w hS hl)
theorem V_ineg {x : Int32} (hd : decode M.2.1 pc = .ok (.ineg, 1))  (k : V l s0 D d mc ms M Post PX (pc + 1) lv (.int (-x) :: st) h) : V l s0 D d mc ms M Post PX pc lv (.int x :: st) h :=
  fun p e R s m args below meth c H locs cells slots ls Q F r1 r2 r3 r4 fin w hS hl => lv_ineg F.1 F.2.1 hd (k p e R s m args below meth c H locs cells slots ls Q F r1 r2 r3 r4 fin w hS hl)
theorem V_lneg {x : Int64} (hd : decode M.2.1 pc = .ok (.lneg, 1))  (k : V l s0 D d mc ms M Post PX (pc + 1) lv (.long (-x) :: st) h) : V l s0 D d mc ms M Post PX pc lv (.long x :: st) h :=
  fun p e R s m args below meth c H locs cells slots ls Q F r1 r2 r3 r4 fin w hS hl => lv_lneg F.1 F.2.1 hd (k p e R s m args below meth c H locs cells slots ls Q F r1 r2 r3 r4 fin w hS hl)
theorem V_ishl {x y : Int32} (hd : decode M.2.1 pc = .ok (.ishl, 1))  (k : V l s0 D d mc ms M Post PX (pc + 1) lv (.int (x <<< (y &&& 31)) :: st) h) : V l s0 D d mc ms M Post PX pc lv (.int y :: .int x :: st) h :=
  fun p e R s m args below meth c H locs cells slots ls Q F r1 r2 r3 r4 fin w hS hl => lv_ishl F.1 F.2.1 hd (k p e R s m args below meth c H locs cells slots ls Q F r1 r2 r3 r4 fin w hS hl)
theorem V_ishr {x y : Int32} (hd : decode M.2.1 pc = .ok (.ishr, 1))  (k : V l s0 D d mc ms M Post PX (pc + 1) lv (.int (x >>> (y &&& 31)) :: st) h) : V l s0 D d mc ms M Post PX pc lv (.int y :: .int x :: st) h :=
  fun p e R s m args below meth c H locs cells slots ls Q F r1 r2 r3 r4 fin w hS hl => lv_ishr F.1 F.2.1 hd (k p e R s m args below meth c H locs cells slots ls Q F r1 r2 r3 r4 fin w hS hl)
theorem V_iushr {x y : Int32} (hd : decode M.2.1 pc = .ok (.iushr, 1))  (k : V l s0 D d mc ms M Post PX (pc + 1) lv (.int ((x.toUInt32 >>> (y.toUInt32 &&& Int32.toUInt32 31)).toInt32) :: st) h) : V l s0 D d mc ms M Post PX pc lv (.int y :: .int x :: st) h :=
  fun p e R s m args below meth c H locs cells slots ls Q F r1 r2 r3 r4 fin w hS hl => lv_iushr F.1 F.2.1 hd rfl (k p e R s m args below meth c H locs cells slots ls Q F r1 r2 r3 r4 fin w hS hl)
theorem V_lshl {x : Int64} {y : Int32} (hd : decode M.2.1 pc = .ok (.lshl, 1))  (k : V l s0 D d mc ms M Post PX (pc + 1) lv (.long (x <<< (y.toInt64 &&& 63)) :: st) h) : V l s0 D d mc ms M Post PX pc lv (.int y :: .long x :: st) h :=
  fun p e R s m args below meth c H locs cells slots ls Q F r1 r2 r3 r4 fin w hS hl => lv_lshl F.1 F.2.1 hd rfl (k p e R s m args below meth c H locs cells slots ls Q F r1 r2 r3 r4 fin w hS hl)
theorem V_lshr {x : Int64} {y : Int32} (hd : decode M.2.1 pc = .ok (.lshr, 1))  (k : V l s0 D d mc ms M Post PX (pc + 1) lv (.long (x >>> (y.toInt64 &&& 63)) :: st) h) : V l s0 D d mc ms M Post PX pc lv (.int y :: .long x :: st) h :=
  fun p e R s m args below meth c H locs cells slots ls Q F r1 r2 r3 r4 fin w hS hl => lv_lshr F.1 F.2.1 hd rfl (k p e R s m args below meth c H locs cells slots ls Q F r1 r2 r3 r4 fin w hS hl)
theorem V_lushr {x : Int64} {y : Int32} (hd : decode M.2.1 pc = .ok (.lushr, 1))  (k : V l s0 D d mc ms M Post PX (pc + 1) lv (.long ((x.toUInt64 >>> (y.toInt64.toUInt64 &&& Int64.toUInt64 63)).toInt64) :: st) h) : V l s0 D d mc ms M Post PX pc lv (.int y :: .long x :: st) h :=
  fun p e R s m args below meth c H locs cells slots ls Q F r1 r2 r3 r4 fin w hS hl => lv_lushr F.1 F.2.1 hd rfl (k p e R s m args below meth c H locs cells slots ls Q F r1 r2 r3 r4 fin w hS hl)
theorem V_i2l {x : Int32} (hd : decode M.2.1 pc = .ok (.i2l, 1))  (k : V l s0 D d mc ms M Post PX (pc + 1) lv (.long x.toInt64 :: st) h) : V l s0 D d mc ms M Post PX pc lv (.int x :: st) h :=
  fun p e R s m args below meth c H locs cells slots ls Q F r1 r2 r3 r4 fin w hS hl => lv_i2l F.1 F.2.1 hd rfl (k p e R s m args below meth c H locs cells slots ls Q F r1 r2 r3 r4 fin w hS hl)
theorem V_l2i {x : Int64} (hd : decode M.2.1 pc = .ok (.l2i, 1))  (k : V l s0 D d mc ms M Post PX (pc + 1) lv (.int x.toInt32 :: st) h) : V l s0 D d mc ms M Post PX pc lv (.long x :: st) h :=
  fun p e R s m args below meth c H locs cells slots ls Q F r1 r2 r3 r4 fin w hS hl => lv_l2i F.1 F.2.1 hd rfl (k p e R s m args below meth c H locs cells slots ls Q F r1 r2 r3 r4 fin w hS hl)
theorem V_i2b {x : Int32} (hd : decode M.2.1 pc = .ok (.i2b, 1))  (k : V l s0 D d mc ms M Post PX (pc + 1) lv (.int x.toInt8.toInt32 :: st) h) : V l s0 D d mc ms M Post PX pc lv (.int x :: st) h :=
  fun p e R s m args below meth c H locs cells slots ls Q F r1 r2 r3 r4 fin w hS hl => lv_i2b F.1 F.2.1 hd rfl (k p e R s m args below meth c H locs cells slots ls Q F r1 r2 r3 r4 fin w hS hl)
theorem V_i2c {x : Int32} (hd : decode M.2.1 pc = .ok (.i2c, 1))  (k : V l s0 D d mc ms M Post PX (pc + 1) lv (.int ((x.toUInt32 % 65536).toInt32) :: st) h) : V l s0 D d mc ms M Post PX pc lv (.int x :: st) h :=
  fun p e R s m args below meth c H locs cells slots ls Q F r1 r2 r3 r4 fin w hS hl => lv_i2c F.1 F.2.1 hd rfl (k p e R s m args below meth c H locs cells slots ls Q F r1 r2 r3 r4 fin w hS hl)
theorem V_lcmp {x y : Int64} (hd : decode M.2.1 pc = .ok (.lcmp, 1))  (k : V l s0 D d mc ms M Post PX (pc + 1) lv (.int (lg_cmp x y) :: st) h) : V l s0 D d mc ms M Post PX pc lv (.long y :: .long x :: st) h :=
  fun p e R s m args below meth c H locs cells slots ls Q F r1 r2 r3 r4 fin w hS hl => W.lcmp F.1 F.2.1 hd (k p e R s m args below meth c H locs cells slots ls Q F r1 r2 r3 r4 fin w hS hl)
theorem V_dup {va : Value} (hd : decode M.2.1 pc = .ok (.dup, 1)) (hva : va.category = 1) (k : V l s0 D d mc ms M Post PX (pc + 1) lv (va :: va :: st) h) : V l s0 D d mc ms M Post PX pc lv (va :: st) h :=
  fun p e R s m args below meth c H locs cells slots ls Q F r1 r2 r3 r4 fin w hS hl => lv_dup F.1 F.2.1 hd hva (k p e R s m args below meth c H locs cells slots ls Q F r1 r2 r3 r4 fin w hS hl)
theorem V_dup2 {va vb : Value} (hd : decode M.2.1 pc = .ok (.dup2, 1)) (hva : va.category = 1) (hvb : vb.category = 1) (k : V l s0 D d mc ms M Post PX (pc + 1) lv (va :: vb :: va :: vb :: st) h) : V l s0 D d mc ms M Post PX pc lv (va :: vb :: st) h :=
  fun p e R s m args below meth c H locs cells slots ls Q F r1 r2 r3 r4 fin w hS hl => lv_dup2_11 F.1 F.2.1 hd hva hvb (k p e R s m args below meth c H locs cells slots ls Q F r1 r2 r3 r4 fin w hS hl)
theorem V_pop {va : Value} (hd : decode M.2.1 pc = .ok (.pop, 1)) (hva : va.category = 1) (k : V l s0 D d mc ms M Post PX (pc + 1) lv (st) h) : V l s0 D d mc ms M Post PX pc lv (va :: st) h :=
  fun p e R s m args below meth c H locs cells slots ls Q F r1 r2 r3 r4 fin w hS hl => lv_pop F.1 F.2.1 hd hva (k p e R s m args below meth c H locs cells slots ls Q F r1 r2 r3 r4 fin w hS hl)
theorem V_pop2 {va : Value} (hd : decode M.2.1 pc = .ok (.pop2, 1)) (hva : va.category = 2) (k : V l s0 D d mc ms M Post PX (pc + 1) lv (st) h) : V l s0 D d mc ms M Post PX pc lv (va :: st) h :=
  fun p e R s m args below meth c H locs cells slots ls Q F r1 r2 r3 r4 fin w hS hl => lv_pop2_2 F.1 F.2.1 hd hva (k p e R s m args below meth c H locs cells slots ls Q F r1 r2 r3 r4 fin w hS hl)
theorem V_if_eq {x : Int32} {off : Int} {tgt : Nat} (hd : decode M.2.1 pc = .ok (.ifCond .eq off, 3)) (ht : (pc : Int) + off = (tgt : Int)) (kt : x = 0 → V l s0 D d mc ms M Post PX tgt lv st h) (kf : ¬ x = 0 → V l s0 D d mc ms M Post PX (pc + 3) lv st h) : V l s0 D d mc ms M Post PX pc lv (.int x :: st) h :=
  fun p e R s m args below meth c H locs cells slots ls Q F r1 r2 r3 r4 fin w hS hl => lv_if_eq F.1 F.2.1 hd ht (fun z => kt z p e R s m args below meth c H locs cells slots ls Q F r1 r2 r3 r4 fin w hS hl) (fun z => kf z p e R s m args below meth c H locs cells slots ls Q F r1 r2 r3 r4 fin w hS hl)
theorem V_if_ne {x : Int32} {off : Int} {tgt : Nat} (hd : decode M.2.1 pc = .ok (.ifCond .ne off, 3)) (ht : (pc : Int) + off = (tgt : Int)) (kt : ¬ x = 0 → V l s0 D d mc ms M Post PX tgt lv st h) (kf : x = 0 → V l s0 D d mc ms M Post PX (pc + 3) lv st h) : V l s0 D d mc ms M Post PX pc lv (.int x :: st) h :=
  fun p e R s m args below meth c H locs cells slots ls Q F r1 r2 r3 r4 fin w hS hl => lv_if_ne F.1 F.2.1 hd ht (fun z => kt z p e R s m args below meth c H locs cells slots ls Q F r1 r2 r3 r4 fin w hS hl) (fun z => kf z p e R s m args below meth c H locs cells slots ls Q F r1 r2 r3 r4 fin w hS hl)
theorem V_if_lt {x : Int32} {off : Int} {tgt : Nat} (hd : decode M.2.1 pc = .ok (.ifCond .lt off, 3)) (ht : (pc : Int) + off = (tgt : Int)) (kt : x < 0 → V l s0 D d mc ms M Post PX tgt lv st h) (kf : ¬ x < 0 → V l s0 D d mc ms M Post PX (pc + 3) lv st h) : V l s0 D d mc ms M Post PX pc lv (.int x :: st) h :=
  fun p e R s m args below meth c H locs cells slots ls Q F r1 r2 r3 r4 fin w hS hl => lv_if_lt F.1 F.2.1 hd ht (fun z => kt z p e R s m args below meth c H locs cells slots ls Q F r1 r2 r3 r4 fin w hS hl) (fun z => kf z p e R s m args below meth c H locs cells slots ls Q F r1 r2 r3 r4 fin w hS hl)
theorem V_if_ge {x : Int32} {off : Int} {tgt : Nat} (hd : decode M.2.1 pc = .ok (.ifCond .ge off, 3)) (ht : (pc : Int) + off = (tgt : Int)) (kt : 0 ≤ x → V l s0 D d mc ms M Post PX tgt lv st h) (kf : ¬ 0 ≤ x → V l s0 D d mc ms M Post PX (pc + 3) lv st h) : V l s0 D d mc ms M Post PX pc lv (.int x :: st) h :=
  fun p e R s m args below meth c H locs cells slots ls Q F r1 r2 r3 r4 fin w hS hl => lv_if_ge F.1 F.2.1 hd ht (fun z => kt z p e R s m args below meth c H locs cells slots ls Q F r1 r2 r3 r4 fin w hS hl) (fun z => kf z p e R s m args below meth c H locs cells slots ls Q F r1 r2 r3 r4 fin w hS hl)
theorem V_if_gt {x : Int32} {off : Int} {tgt : Nat} (hd : decode M.2.1 pc = .ok (.ifCond .gt off, 3)) (ht : (pc : Int) + off = (tgt : Int)) (kt : 0 < x → V l s0 D d mc ms M Post PX tgt lv st h) (kf : ¬ 0 < x → V l s0 D d mc ms M Post PX (pc + 3) lv st h) : V l s0 D d mc ms M Post PX pc lv (.int x :: st) h :=
  fun p e R s m args below meth c H locs cells slots ls Q F r1 r2 r3 r4 fin w hS hl => lv_if_gt F.1 F.2.1 hd ht (fun z => kt z p e R s m args below meth c H locs cells slots ls Q F r1 r2 r3 r4 fin w hS hl) (fun z => kf z p e R s m args below meth c H locs cells slots ls Q F r1 r2 r3 r4 fin w hS hl)
theorem V_if_le {x : Int32} {off : Int} {tgt : Nat} (hd : decode M.2.1 pc = .ok (.ifCond .le off, 3)) (ht : (pc : Int) + off = (tgt : Int)) (kt : x ≤ 0 → V l s0 D d mc ms M Post PX tgt lv st h) (kf : ¬ x ≤ 0 → V l s0 D d mc ms M Post PX (pc + 3) lv st h) : V l s0 D d mc ms M Post PX pc lv (.int x :: st) h :=
  fun p e R s m args below meth c H locs cells slots ls Q F r1 r2 r3 r4 fin w hS hl => lv_if_le F.1 F.2.1 hd ht (fun z => kt z p e R s m args below meth c H locs cells slots ls Q F r1 r2 r3 r4 fin w hS hl) (fun z => kf z p e R s m args below meth c H locs cells slots ls Q F r1 r2 r3 r4 fin w hS hl)
theorem V_icmp_eq {x y : Int32} {off : Int} {tgt : Nat} (hd : decode M.2.1 pc = .ok (.if_icmp .eq off, 3)) (ht : (pc : Int) + off = (tgt : Int)) (kt : x = y → V l s0 D d mc ms M Post PX tgt lv st h) (kf : ¬ x = y → V l s0 D d mc ms M Post PX (pc + 3) lv st h) : V l s0 D d mc ms M Post PX pc lv (.int y :: .int x :: st) h :=
  fun p e R s m args below meth c H locs cells slots ls Q F r1 r2 r3 r4 fin w hS hl => lv_icmp_eq F.1 F.2.1 hd ht (fun z => kt z p e R s m args below meth c H locs cells slots ls Q F r1 r2 r3 r4 fin w hS hl) (fun z => kf z p e R s m args below meth c H locs cells slots ls Q F r1 r2 r3 r4 fin w hS hl)
theorem V_icmp_ne {x y : Int32} {off : Int} {tgt : Nat} (hd : decode M.2.1 pc = .ok (.if_icmp .ne off, 3)) (ht : (pc : Int) + off = (tgt : Int)) (kt : ¬ x = y → V l s0 D d mc ms M Post PX tgt lv st h) (kf : x = y → V l s0 D d mc ms M Post PX (pc + 3) lv st h) : V l s0 D d mc ms M Post PX pc lv (.int y :: .int x :: st) h :=
  fun p e R s m args below meth c H locs cells slots ls Q F r1 r2 r3 r4 fin w hS hl => lv_icmp_ne F.1 F.2.1 hd ht (fun z => kt z p e R s m args below meth c H locs cells slots ls Q F r1 r2 r3 r4 fin w hS hl) (fun z => kf z p e R s m args below meth c H locs cells slots ls Q F r1 r2 r3 r4 fin w hS hl)
theorem V_icmp_lt {x y : Int32} {off : Int} {tgt : Nat} (hd : decode M.2.1 pc = .ok (.if_icmp .lt off, 3)) (ht : (pc : Int) + off = (tgt : Int)) (kt : x < y → V l s0 D d mc ms M Post PX tgt lv st h) (kf : ¬ x < y → V l s0 D d mc ms M Post PX (pc + 3) lv st h) : V l s0 D d mc ms M Post PX pc lv (.int y :: .int x :: st) h :=
  fun p e R s m args below meth c H locs cells slots ls Q F r1 r2 r3 r4 fin w hS hl => lv_icmp_lt F.1 F.2.1 hd ht (fun z => kt z p e R s m args below meth c H locs cells slots ls Q F r1 r2 r3 r4 fin w hS hl) (fun z => kf z p e R s m args below meth c H locs cells slots ls Q F r1 r2 r3 r4 fin w hS hl)
theorem V_icmp_ge {x y : Int32} {off : Int} {tgt : Nat} (hd : decode M.2.1 pc = .ok (.if_icmp .ge off, 3)) (ht : (pc : Int) + off = (tgt : Int)) (kt : y ≤ x → V l s0 D d mc ms M Post PX tgt lv st h) (kf : ¬ y ≤ x → V l s0 D d mc ms M Post PX (pc + 3) lv st h) : V l s0 D d mc ms M Post PX pc lv (.int y :: .int x :: st) h :=
  fun p e R s m args below meth c H locs cells slots ls Q F r1 r2 r3 r4 fin w hS hl => lv_icmp_ge F.1 F.2.1 hd ht (fun z => kt z p e R s m args below meth c H locs cells slots ls Q F r1 r2 r3 r4 fin w hS hl) (fun z => kf z p e R s m args below meth c H locs cells slots ls Q F r1 r2 r3 r4 fin w hS hl)
theorem V_icmp_gt {x y : Int32} {off : Int} {tgt : Nat} (hd : decode M.2.1 pc = .ok (.if_icmp .gt off, 3)) (ht : (pc : Int) + off = (tgt : Int)) (kt : y < x → V l s0 D d mc ms M Post PX tgt lv st h) (kf : ¬ y < x → V l s0 D d mc ms M Post PX (pc + 3) lv st h) : V l s0 D d mc ms M Post PX pc lv (.int y :: .int x :: st) h :=
  fun p e R s m args below meth c H locs cells slots ls Q F r1 r2 r3 r4 fin w hS hl => lv_icmp_gt F.1 F.2.1 hd ht (fun z => kt z p e R s m args below meth c H locs cells slots ls Q F r1 r2 r3 r4 fin w hS hl) (fun z => kf z p e R s m args below meth c H locs cells slots ls Q F r1 r2 r3 r4 fin w hS hl)
theorem V_icmp_le {x y : Int32} {off : Int} {tgt : Nat} (hd : decode M.2.1 pc = .ok (.if_icmp .le off, 3)) (ht : (pc : Int) + off = (tgt : Int)) (kt : x ≤ y → V l s0 D d mc ms M Post PX tgt lv st h) (kf : ¬ x ≤ y → V l s0 D d mc ms M Post PX (pc + 3) lv st h) : V l s0 D d mc ms M Post PX pc lv (.int y :: .int x :: st) h :=
  fun p e R s m args below meth c H locs cells slots ls Q F r1 r2 r3 r4 fin w hS hl => lv_icmp_le F.1 F.2.1 hd ht (fun z => kt z p e R s m args below meth c H locs cells slots ls Q F r1 r2 r3 r4 fin w hS hl) (fun z => kf z p e R s m args below meth c H locs cells slots ls Q F r1 r2 r3 r4 fin w hS hl)
theorem V_goto {off : Int} {tgt : Nat} (hd : decode M.2.1 pc = .ok (.goto off, 3)) (ht : (pc : Int) + off = (tgt : Int)) (k : V l s0 D d mc ms M Post PX tgt lv st h) : V l s0 D d mc ms M Post PX pc lv st h :=
  fun p e R s m args below meth c H locs cells slots ls Q F r1 r2 r3 r4 fin w hS hl => lv_goto F.1 F.2.1 hd ht (k p e R s m args below meth c H locs cells slots ls Q F r1 r2 r3 r4 fin w hS hl)
theorem V_ifnull {x : Nat} {off : Int} (hd : decode M.2.1 pc = .ok (.ifnull off, 3)) (k : V l s0 D d mc ms M Post PX (pc + 3) lv st h) : V l s0 D d mc ms M Post PX pc lv (.ref x :: st) h :=
  fun p e R s m args below meth c H locs cells slots ls Q F r1 r2 r3 r4 fin w hS hl => lv_ifnull F.1 F.2.1 hd (k p e R s m args below meth c H locs cells slots ls Q F r1 r2 r3 r4 fin w hS hl)
theorem V_ifnullN {off : Int} {tgt : Nat} (hd : decode M.2.1 pc = .ok (.ifnull off, 3)) (ht : (pc : Int) + off = (tgt : Int)) (k : V l s0 D d mc ms M Post PX tgt lv st h) : V l s0 D d mc ms M Post PX pc lv (.null :: st) h :=
  fun p e R s m args below meth c H locs cells slots ls Q F r1 r2 r3 r4 fin w hS hl => lv_ifnullN F.1 F.2.1 hd ht (k p e R s m args below meth c H locs cells slots ls Q F r1 r2 r3 r4 fin w hS hl)
theorem V_ifnonnull {x : Nat} {off : Int} {tgt : Nat} (hd : decode M.2.1 pc = .ok (.ifnonnull off, 3)) (ht : (pc : Int) + off = (tgt : Int)) (k : V l s0 D d mc ms M Post PX tgt lv st h) : V l s0 D d mc ms M Post PX pc lv (.ref x :: st) h :=
  fun p e R s m args below meth c H locs cells slots ls Q F r1 r2 r3 r4 fin w hS hl => lv_ifnonnull F.1 F.2.1 hd ht (k p e R s m args below meth c H locs cells slots ls Q F r1 r2 r3 r4 fin w hS hl)
theorem V_ifnonnullN {off : Int} (hd : decode M.2.1 pc = .ok (.ifnonnull off, 3)) (k : V l s0 D d mc ms M Post PX (pc + 3) lv st h) : V l s0 D d mc ms M Post PX pc lv (.null :: st) h :=
  fun p e R s m args below meth c H locs cells slots ls Q F r1 r2 r3 r4 fin w hS hl => lv_ifnonnullN F.1 F.2.1 hd (k p e R s m args below meth c H locs cells slots ls Q F r1 r2 r3 r4 fin w hS hl)
theorem V_tableOut {dflt lo hi : Int} {offs : Array Int} {len : Nat} {x : Int32} {tgt : Nat} (hd : decode M.2.1 pc = .ok (.tableswitch dflt lo hi offs, len)) (hx : x.toInt < lo ∨ hi < x.toInt) (ht : (pc : Int) + dflt = (tgt : Int)) (k : V l s0 D d mc ms M Post PX tgt lv st h) : V l s0 D d mc ms M Post PX pc lv (.int x :: st) h :=
  fun p e R s m args below meth c H locs cells slots ls Q F r1 r2 r3 r4 fin w hS hl => lv_tableOut F.1 F.2.1 hd hx ht (k p e R s m args below meth c H locs cells slots ls Q F r1 r2 r3 r4 fin w hS hl)
theorem V_tableIn {dflt lo hi : Int} {offs : Array Int} {len : Nat} {x : Int32} {off : Int} {tgt : Nat} (hd : decode M.2.1 pc = .ok (.tableswitch dflt lo hi offs, len)) (h1 : ¬ x.toInt < lo) (h2 : ¬ hi < x.toInt) (ho : offs[(x.toInt - lo).toNat]? = some off) (ht : (pc : Int) + off = (tgt : Int)) (k : V l s0 D d mc ms M Post PX tgt lv st h) : V l s0 D d mc ms M Post PX pc lv (.int x :: st) h :=
  fun p e R s m args below meth c H locs cells slots ls Q F r1 r2 r3 r4 fin w hS hl => lv_tableIn F.1 F.2.1 hd h1 h2 ho ht (k p e R s m args below meth c H locs cells slots ls Q F r1 r2 r3 r4 fin w hS hl)
theorem V_lv {lv' : List (Nat × Value)} (hs : v_all lv lv') (k : V l s0 D d mc ms M Post PX pc lv' st h) : V l s0 D d mc ms M Post PX pc lv st h :=
  fun p e R s m args below meth c H locs cells slots ls Q F r1 r2 r3 r4 fin w hS hl => k p e R s m args below meth c H locs cells slots ls Q F r1 r2 r3 r4 fin w hS (v_all_has hl hs)
theorem V_less {mc' ms' : Nat} (h1 : mc' ≤ mc) (h2 : ms' ≤ ms) (k : V l s0 D d mc' ms' M Post PX pc lv st h) : V l s0 D d mc ms M Post PX pc lv st h :=
  fun p e R s m args below meth c H locs cells slots ls Q F r1 r2 r3 r4 fin w hS hl => k p e R s m args below meth c H locs cells slots ls Q F r1 r2 (by omega) (by omega) fin w hS hl
theorem V_deep {d' : Nat} (h1 : d' ≤ d) (k : V l s0 D d' mc ms M Post PX pc lv st h) : V l s0 D d mc ms M Post PX pc lv st h :=
  fun p e R s m args below meth c H locs cells slots ls Q F r1 r2 r3 r4 fin w hS hl => k p e R s m args below meth c H locs cells slots ls Q F (by omega) (by omega) r3 r4 fin w hS hl
theorem V_return (hd : decode M.2.1 pc = .ok (.return_, 1)) (hr : M.2.2.2.1 = none) (hp : Post none h) : V l s0 D d mc ms M Post PX pc lv [] h :=
  fun p e R s m args below meth c H locs cells slots ls Q F r1 r2 r3 r4 fin w hS hl => fin.1 none h H locs cells slots pc ls hp w hS (by omega) (by omega) (Or.inl ⟨rfl, hr, hd⟩)
theorem V_ireturn {x : Int32} {ty : FieldType} (hd : decode M.2.1 pc = .ok (.ireturn, 1)) (hr : M.2.2.2.1 = some ty) (hn : narrow ty (.int x) = .int x) (hp : Post (some (.int x)) h) : V l s0 D d mc ms M Post PX pc lv [.int x] h :=
  fun p e R s m args below meth c H locs cells slots ls Q F r1 r2 r3 r4 fin w hS hl => fin.1 _ h H locs cells slots pc ls hp w hS (by omega) (by omega) (Or.inr (Or.inl ⟨x, ty, rfl, hr, hn, hd⟩))
theorem V_lreturn {x : Int64} (hd : decode M.2.1 pc = .ok (.lreturn, 1)) (hr : M.2.2.2.1 = some .long) (hp : Post (some (.long x)) h) : V l s0 D d mc ms M Post PX pc lv [.long x] h :=
  fun p e R s m args below meth c H locs cells slots ls Q F r1 r2 r3 r4 fin w hS hl => fin.1 _ h H locs cells slots pc ls hp w hS (by omega) (by omega) (Or.inr (Or.inr (Or.inl ⟨x, rfl, hr, hd⟩)))
theorem V_areturn {a : Nat} {n : String} (hd : decode M.2.1 pc = .ok (.areturn, 1)) (hr : M.2.2.2.1 = some (.object n)) (hp : Post (some (.ref a)) h) : V l s0 D d mc ms M Post PX pc lv [.ref a] h :=
  fun p e R s m args below meth c H locs cells slots ls Q F r1 r2 r3 r4 fin w hS hl => fin.1 _ h H locs cells slots pc ls hp w hS (by omega) (by omega) (Or.inr (Or.inr (Or.inr ⟨a, n, rfl, hr, hd⟩)))
theorem V_getf {idx ci j k : Nat} {fs : List Value} {v : Value} (G : GC l s0 D a0) (hd : decode M.2.1 pc = .ok (.getfield idx, 3)) (hf : v_fld M.1.cls idx ci j) (hk : h[k]? = some (.inr (ci, fs))) (hv : fs[j]? = some v) (kk : V l s0 D d mc ms M Post PX (pc + 3) lv (v :: st) h) : V l s0 D d mc ms M Post PX pc lv (.ref (s0.heap.size + k) :: st) h := by
  intro p e R s m args below meth c H locs cells slots ls Q F r1 r2 r3 r4 fin w hS hl
  obtain ⟨C, T, N, hci, hc, hj, hin, hlink⟩ := hf
  obtain ⟨hx, hb, hml, hown, -, -, -, -, hts, hW⟩ := id F
  have hK : va_K D vwCl [] s := va_K.moved hW.alike G.1
  have k1 := kk p e R s m args below meth c H locs cells slots ls Q F r1 r2 r3 r4 fin w hS hl
  rcases hlink with hlink | ⟨host, hlink⟩
  · exact va_get hx hb hts hin hown hK (v_P1 w hk hci) 0 rfl hc j hj (hts _ hlink) (fun x h => h) hv hd k1
  · exact va_getN hx hb hts hin hown hK (v_P1 w hk hci) 0 rfl hc j hj (v_nest G hW hlink) (fun x h => h) hv hd k1
theorem V_putf {idx ci j k : Nat} {fs : List Value} {v : Value} {ty : FieldType} {fi : Bool} (G : GC l s0 D a0) (hd : decode M.2.1 pc = .ok (.putfield idx, 3)) (hf : v_fldP M.1.cls idx ci j ty fi) (hk : h[k]? = some (.inr (ci, fs))) (hn : narrow ty v = v) (hfit : fits ty v = true) (hjl : j < fs.length) (hini : fi = true → M.1.name = "<init>") (kk : V l s0 D d mc ms M Post PX (pc + 3) lv st (h.set k (.inr (ci, fs.set j v)))) : V l s0 D d mc ms M Post PX pc lv (v :: .ref (s0.heap.size + k) :: st) h := by
  intro p e R s m args below meth c H locs cells slots ls Q F r1 r2 r3 r4 fin w hS hl
  obtain ⟨C, T, N, ty0, hci, hc, hj, hin, hty, hnm, hfin, hdd, hdecl, hlink⟩ := hf
  obtain ⟨hx, hb, hml, hown, -, -, -, hname, hts, hW⟩ := id F
  have hK : va_K D vwCl [] s := va_K.moved hW.alike G.1
  have hap := va_apart (own := M.1.cls) hts hin ty0 hty hnm hK hc
  obtain ⟨r, h1, cell, q1, q2, q3, q4⟩ := w.2.1 k _ hk hci
  have hr : r = (C, T, N) := Option.some.inj (h1.symm.trans hc)
  subst hr
  obtain ⟨hSl, hfc, kC, hkC, hkind⟩ := hK.1 ci _ hc
  obtain ⟨cf, kf, fi2, f, hi, hsl⟩ := hSl j hj
  have hst := (u_facts hfc hkC (u_lays hts hin hj) hi).1
  have key : ∀ (H1 : Heap), H1[s0.heap.size + k]? = some (cell.setSlot f.slot v) → H1.size = H.size → (∀ q, q ≠ s0.heap.size + k → H1[q]? = H[q]?) → W p l e R s m args below meth c H1 (locs ++ [⟨s0.heap.size + k, f.slot⟩]) cells slots Q (F0 m (pc + 3) ls st) := by
    intro H1 e1 e2 e3
    rw [hsl] at e1
    refine kk p e R s m args below meth c H1 _ cells slots ls Q F r1 r2 r3 r4 fin (w.set hk e2 e3 (fun _ => ⟨_, hc, t_OB.to (V := updV (vp_V fs) j v) ⟨_, e1, q2, q3, t_set q4 hap hj v⟩ (fun i _ => vp_updV_set hjl v i)⟩)) (hS.put e2 e3 (Nat.le_add_right _ _)) hl
  cases fi with
  | false =>
    have hlay := hts _ (hin _ (u_in_lay hj))
    unfold u_lay at hlay
    rw [if_neg (by rw [hfin]; decide)] at hlay
    have h6 := u_store hfc hkC hkind hlay hi hdd hn hfit
    rcases hlink with hlink | ⟨-, host, hlink⟩
    · exact W.putK hx hb (f := f) ⟨hown, hts _ hlink, ⟨_, _, _, hi⟩, hst⟩ (by rw [q2]; exact h6) q1 q3 (by rw [hsl]; exact k2_hasslot (q4 j hj)) rfl rfl hd fun H' e1 e2 e3 => key H' e1 e2 e3
    · exact va_WputK hx hb (f := f) hown (v_nest G hW hlink) hi hst (by rw [q2]; exact h6) q1 q3 (by rw [hsl]; exact k2_hasslot (q4 j hj)) rfl rfl hd fun H' e1 e2 e3 => key H' e1 e2 e3
  | true =>
    have hlay := hts _ (hin _ (u_in_lay hj))
    unfold u_lay at hlay
    rw [if_pos hfin] at hlay
    have hcf : m.cls = cf := by
      obtain ⟨_, _, c', _, _, _, -, -, hf', -, -, -, hown2, -⟩ := Cond.laysFinal_spec hlay
      have e1 : c' = cf := by have := hi.symm.trans hf'; simp at this; exact this.1.symm
      rw [hdecl rfl] at hown2
      rw [← e1]; exact Option.some.inj (hown.symm.trans hown2)
    have h6 := u_fits hfc hkC hkind (Or.inr hlay) hi hdd hn hfit
    rcases hlink with hlink | ⟨hno, -⟩
    · exact W.putFinK hx hb hown (hts _ hlink) hi hst hcf (by rw [hname]; exact hini rfl) (by rw [q2]; exact h6) q1 q3 (by rw [hsl]; exact k2_hasslot (q4 j hj)) rfl rfl hd fun H' e1 e2 e3 => key H' e1 e2 e3
    · cases hno
theorem V_iald {k n : Nat} {f : Nat → Int32} {i : Int32} (hd : decode M.2.1 pc = .ok (.iaload, 1)) (hk : h[k]? = some (.inl (.int, n, .inl f))) (hi : vp_in i n) (kk : V l s0 D d mc ms M Post PX (pc + 1) lv (.int (f i.toNatClampNeg) :: st) h) : V l s0 D d mc ms M Post PX pc lv (.int i :: .ref (s0.heap.size + k) :: st) h := by
  intro p e R s m args below meth c H locs cells slots ls Q F r1 r2 r3 r4 fin w hS hl
  obtain ⟨cA, hK, hP⟩ := v_PA w hk
  exact va_iald F.1 F.2.1 (va_K.moved F.2.2.2.2.2.2.2.2.2.alike hK) hP 0 0 rfl rfl hi hd (kk p e R s m args below meth c H locs cells slots ls Q F r1 r2 r3 r4 fin w hS hl)
theorem V_bald {k n : Nat} {f : Nat → Int32} {i : Int32} (hd : decode M.2.1 pc = .ok (.baload, 1)) (hk : h[k]? = some (.inl (.byte, n, .inl f))) (hi : vp_in i n) (kk : V l s0 D d mc ms M Post PX (pc + 1) lv (.int (f i.toNatClampNeg) :: st) h) : V l s0 D d mc ms M Post PX pc lv (.int i :: .ref (s0.heap.size + k) :: st) h := by
  intro p e R s m args below meth c H locs cells slots ls Q F r1 r2 r3 r4 fin w hS hl
  obtain ⟨cA, hK, hP⟩ := v_PA w hk
  exact va_bald F.1 F.2.1 (va_K.moved F.2.2.2.2.2.2.2.2.2.alike hK) hP 0 0 rfl rfl hi hd (kk p e R s m args below meth c H locs cells slots ls Q F r1 r2 r3 r4 fin w hS hl)
theorem V_zald {k n : Nat} {f : Nat → Int32} {i : Int32} (hd : decode M.2.1 pc = .ok (.baload, 1)) (hk : h[k]? = some (.inl (.boolean, n, .inl f))) (hi : vp_in i n) (kk : V l s0 D d mc ms M Post PX (pc + 1) lv (.int (f i.toNatClampNeg) :: st) h) : V l s0 D d mc ms M Post PX pc lv (.int i :: .ref (s0.heap.size + k) :: st) h := by
  intro p e R s m args below meth c H locs cells slots ls Q F r1 r2 r3 r4 fin w hS hl
  obtain ⟨cA, hK, hP⟩ := v_PA w hk
  exact va_zald F.1 F.2.1 (va_K.moved F.2.2.2.2.2.2.2.2.2.alike hK) hP 0 0 rfl rfl hi hd (kk p e R s m args below meth c H locs cells slots ls Q F r1 r2 r3 r4 fin w hS hl)
theorem V_lald {k n : Nat} {f : Nat → Int64} {i : Int32} (hd : decode M.2.1 pc = .ok (.laload, 1)) (hk : h[k]? = some (.inl (.long, n, .inr (.inl f)))) (hi : vp_in i n) (kk : V l s0 D d mc ms M Post PX (pc + 1) lv (.long (f i.toNatClampNeg) :: st) h) : V l s0 D d mc ms M Post PX pc lv (.int i :: .ref (s0.heap.size + k) :: st) h := by
  intro p e R s m args below meth c H locs cells slots ls Q F r1 r2 r3 r4 fin w hS hl
  obtain ⟨cA, hK, hP⟩ := v_PA w hk
  exact va_lald F.1 F.2.1 (va_K.moved F.2.2.2.2.2.2.2.2.2.alike hK) hP 0 0 rfl rfl hi hd (kk p e R s m args below meth c H locs cells slots ls Q F r1 r2 r3 r4 fin w hS hl)
theorem V_alen {k : Nat} {x : FieldType × vp_A} (hd : decode M.2.1 pc = .ok (.arraylength, 1)) (hk : h[k]? = some (.inl x)) (kk : V l s0 D d mc ms M Post PX (pc + 1) lv (.int (Int32.ofNat x.2.1) :: st) h) : V l s0 D d mc ms M Post PX pc lv (.ref (s0.heap.size + k) :: st) h := by
  intro p e R s m args below meth c H locs cells slots ls Q F r1 r2 r3 r4 fin w hS hl
  obtain ⟨cA, hK, hP⟩ := v_PA w hk
  exact va_alen F.1 F.2.1 (va_K.moved F.2.2.2.2.2.2.2.2.2.alike hK) hP 0 0 rfl (ty := x.1) rfl rfl hd (kk p e R s m args below meth c H locs cells slots ls Q F r1 r2 r3 r4 fin w hS hl)
theorem V_iast {k n : Nat} {f : Nat → Int32} {i : Int32} {x : Int32} (hd : decode M.2.1 pc = .ok (.iastore, 1)) (hk : h[k]? = some (.inl (.int, n, .inl f))) (hi : vp_in i n) (kk : V l s0 D d mc ms M Post PX (pc + 1) lv st (h.set k (.inl (.int, n, .inl (upd f i.toNatClampNeg x))))) : V l s0 D d mc ms M Post PX pc lv (.int x :: .int i :: .ref (s0.heap.size + k) :: st) h := by
  intro p e R s m args below meth c H locs cells slots ls Q F r1 r2 r3 r4 fin w hS hl
  obtain ⟨cA, hK, hP⟩ := v_PA w hk
  have hKs := va_K.moved F.2.2.2.2.2.2.2.2.2.alike hK
  refine W.iast F.1 F.2.1 (hP 0 _ rfl) ((hKs.2 0 _ rfl).1 n (fun j => .int (f j))) (fun q => by cases q) (by show ¬ (i < 0 ∨ (arrV _ _ _).slots.size ≤ _); rw [arrV_size]; exact hi) rfl rfl hd fun H1 e1 z oq => ?_
  refine kk p e R s m args below meth c H1 _ cells slots ls Q F r1 r2 r3 r4 fin (w.set hk z oq ⟨cA, hK, ?_⟩) (hS.put z oq (Nat.le_add_right _ _)) hl
  rw [e1]
  show some ((vp_cell cA (n, .inl f)).setSlot _ _) = _
  rw [vp_cell_i, vp_cell_i, arrV_store]
  congr 2
  funext q
  by_cases hq : q = i.toNatClampNeg
  · subst hq
    simp [updV, upd]
  · simp [updV, upd, hq]
theorem V_bast {k n : Nat} {f : Nat → Int32} {i : Int32} {x : Int32} (hd : decode M.2.1 pc = .ok (.bastore, 1)) (hk : h[k]? = some (.inl (.byte, n, .inl f))) (hi : vp_in i n) (kk : V l s0 D d mc ms M Post PX (pc + 1) lv st (h.set k (.inl (.byte, n, .inl (upd f i.toNatClampNeg (vp_nar .byte x)))))) : V l s0 D d mc ms M Post PX pc lv (.int x :: .int i :: .ref (s0.heap.size + k) :: st) h := by
  intro p e R s m args below meth c H locs cells slots ls Q F r1 r2 r3 r4 fin w hS hl
  obtain ⟨cA, hK, hP⟩ := v_PA w hk
  have hKs := va_K.moved F.2.2.2.2.2.2.2.2.2.alike hK
  refine W.bast F.1 F.2.1 (hP 0 _ rfl) ((hKs.2 0 _ rfl).1 n (fun j => .int (f j))) (fun q => by cases q) (by show ¬ (i < 0 ∨ (arrV _ _ _).slots.size ≤ _); rw [arrV_size]; exact hi) rfl rfl hd fun H1 e1 z oq => ?_
  refine kk p e R s m args below meth c H1 _ cells slots ls Q F r1 r2 r3 r4 fin (w.set hk z oq ⟨cA, hK, ?_⟩) (hS.put z oq (Nat.le_add_right _ _)) hl
  rw [e1]
  show some ((vp_cell cA (n, .inl f)).setSlot _ _) = _
  rw [vp_cell_i, vp_cell_i, arrV_store]
  congr 2
  funext q
  by_cases hq : q = i.toNatClampNeg
  · subst hq
    simp [updV, upd, vp_nar, narrow]
  · simp [updV, upd, hq]
theorem V_zast {k n : Nat} {f : Nat → Int32} {i : Int32} {x : Int32} (hd : decode M.2.1 pc = .ok (.bastore, 1)) (hk : h[k]? = some (.inl (.boolean, n, .inl f))) (hi : vp_in i n) (kk : V l s0 D d mc ms M Post PX (pc + 1) lv st (h.set k (.inl (.boolean, n, .inl (upd f i.toNatClampNeg (vp_nar .boolean x)))))) : V l s0 D d mc ms M Post PX pc lv (.int x :: .int i :: .ref (s0.heap.size + k) :: st) h := by
  intro p e R s m args below meth c H locs cells slots ls Q F r1 r2 r3 r4 fin w hS hl
  obtain ⟨cA, hK, hP⟩ := v_PA w hk
  have hKs := va_K.moved F.2.2.2.2.2.2.2.2.2.alike hK
  refine W.zast F.1 F.2.1 (hP 0 _ rfl) ((hKs.2 0 _ rfl).1 n (fun j => .int (f j))) (fun q => by cases q) (by show ¬ (i < 0 ∨ (arrV _ _ _).slots.size ≤ _); rw [arrV_size]; exact hi) rfl rfl hd fun H1 e1 z oq => ?_
  refine kk p e R s m args below meth c H1 _ cells slots ls Q F r1 r2 r3 r4 fin (w.set hk z oq ⟨cA, hK, ?_⟩) (hS.put z oq (Nat.le_add_right _ _)) hl
  rw [e1]
  show some ((vp_cell cA (n, .inl f)).setSlot _ _) = _
  rw [vp_cell_i, vp_cell_i, arrV_store]
  congr 2
  funext q
  by_cases hq : q = i.toNatClampNeg
  · subst hq
    simp [updV, upd, vp_nar, narrow]
  · simp [updV, upd, hq]
theorem V_last {k n : Nat} {f : Nat → Int64} {i : Int32} {x : Int64} (hd : decode M.2.1 pc = .ok (.lastore, 1)) (hk : h[k]? = some (.inl (.long, n, .inr (.inl f)))) (hi : vp_in i n) (kk : V l s0 D d mc ms M Post PX (pc + 1) lv st (h.set k (.inl (.long, n, .inr (.inl (vp_updL f i.toNatClampNeg x)))))) : V l s0 D d mc ms M Post PX pc lv (.long x :: .int i :: .ref (s0.heap.size + k) :: st) h := by
  intro p e R s m args below meth c H locs cells slots ls Q F r1 r2 r3 r4 fin w hS hl
  obtain ⟨cA, hK, hP⟩ := v_PA w hk
  have hKs := va_K.moved F.2.2.2.2.2.2.2.2.2.alike hK
  refine W.last F.1 F.2.1 (hP 0 _ rfl) ((hKs.2 0 _ rfl).1 n (fun j => .long (f j))) (fun q => by cases q) (by show ¬ (i < 0 ∨ (arrV _ _ _).slots.size ≤ _); rw [arrV_size]; exact hi) rfl rfl hd fun H1 e1 z oq => ?_
  refine kk p e R s m args below meth c H1 _ cells slots ls Q F r1 r2 r3 r4 fin (w.set hk z oq ⟨cA, hK, ?_⟩) (hS.put z oq (Nat.le_add_right _ _)) hl
  rw [e1]
  show some ((vp_cell cA (n, .inr (.inl f))).setSlot _ _) = _
  rw [vp_cell_l, vp_cell_l, arrV_store]
  congr 2
  funext q
  by_cases hq : q = i.toNatClampNeg
  · subst hq
    simp [updV, vp_updL]
  · simp [updV, vp_updL, hq]
theorem V_newa {atype : ArrayType} {n : Int32} {N : Nat} {x : vp_A} (G : GC l s0 D a0) (hd : decode M.2.1 pc = .ok (.newarray atype, 2)) (hac : Cond.arrayClass (newarray.typeOf atype) ∈ gw) (hx : ∀ cA : ClassId, vp_cell cA x = arrV cA N (fun _ => defaultValue (newarray.typeOf atype))) (hn : ¬ n < 0) (hN : n.toNatClampNeg = N) (hby : N * componentBytes (newarray.typeOf atype) ≤ 536870912) (kk : V l s0 D d mc ms M Post PX (pc + 2) lv (.ref (s0.heap.size + h.length) :: st) (h ++ [.inl (newarray.typeOf atype, x)])) : V l s0 D d (mc + 1) (ms + N) M Post PX pc lv (.int n :: st) h := by
  intro p e R s m args below meth c H locs cells slots ls Q F r1 r2 r3 r4 fin w hS hl
  refine va_newaK F.1 F.2.1 (F.2.2.2.2.2.2.2.2.1 _ hac) rfl hd rfl hn hN hby (by omega) (by omega) w.1 fun H1 cA e1 z1 o1 hAr hNm => ?_
  refine kk p e R s m args below meth c H1 _ _ _ ls Q F r1 r2 (by omega) (by omega) fin (w.push (by rw [z1, w.1]) (fun q hq => o1 q (by rw [w.1] at hq; exact hq)) ⟨cA, va_K.moved F.2.2.2.2.2.2.2.2.2.alike.symm ⟨fun c q hq => (va_K.moved F.2.2.2.2.2.2.2.2.2.alike G.1).1 c q hq, fun i q hq => ?_⟩, by rw [hx]; exact e1⟩) ⟨Nat.le_trans hS.1 (by rw [z1, w.1]; omega), fun q h1 h2 => by rw [o1 q (by have := hS.1; rw [w.1] at this; omega)]; exact hS.2.1 q h1 h2, hS.2.2⟩ hl
  match i, hq with
  | 0, hq =>
    cases hq
    exact ⟨hAr, by cases atype <;> exact hNm⟩
theorem V_newo {idx ci N : Nat} {C : String} {T : u_T} {fs : List Value} (G : GC l s0 D a0) (hd : decode M.2.1 pc = .ok (.new idx, 3)) (hcl : Cond.classLink M.1.cls idx C ∈ gw) (hinst : Cond.instantiable C N ∈ gw) (hini : Cond.initialized C ∈ gw) (hin : ∀ w ∈ u_ws C T N, w ∈ gw) (ty : Nat → FieldType) (hty : ∀ k, k < N → parseFieldDescriptor (T k).2.2.1 = some (ty k)) (hc : vwCl[ci]? = some (C, T, N)) (hfs : ∀ j, j < N → defaultValue (ty j) = vp_V fs j) (kk : V l s0 D d mc ms M Post PX (pc + 3) lv (.ref (s0.heap.size + h.length) :: st) (h ++ [.inr (ci, fs)])) : V l s0 D d (mc + 1) (ms + N) M Post PX pc lv st h := by
  intro p e R s m args below meth c H locs cells slots ls Q F r1 r2 r3 r4 fin w hS hl
  obtain ⟨hx, hb, hml, hown, -, -, -, -, hts, hW⟩ := id F
  have hK : va_K D vwCl [] s := va_K.moved hW.alike G.1
  have hP0 : va_P D vwCl [] H := fun k q h => by simp at h
  have hD0 : va_D (v_A s0) [] := ⟨fun i j p q h => by simp at h, fun k q h => by simp at h⟩
  have hKn := hK.1 ci _ hc
  refine W.newcK hx hb hown (hts _ hcl) (hts _ hinst) (hts _ hini) rfl hd (by omega) (by omega) hKn.2.1 w.1 fun H1 kC hkC e1 z1 o1 => ?_
  refine kk p e R s m args below meth c H1 _ _ _ ls Q F r1 r2 (by omega) (by omega) fin (w.push (by rw [z1, w.1]) (fun q hq => o1 q (by rw [w.1] at hq; exact hq)) (fun _ => ?_)) ⟨Nat.le_trans hS.1 (by rw [z1, w.1]; omega), fun q h1 h2 => by rw [o1 q (by have := hS.1; rw [w.1] at this; omega)]; exact hS.2.1 q h1 h2, hS.2.2⟩ hl
  exact ⟨_, hc, (u_born ty hts hin hKn hkC e1 hty).to hfs⟩
end VL

