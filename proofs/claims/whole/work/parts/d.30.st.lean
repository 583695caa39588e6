/-! String constants of the reference, things of the old heap, throws -/
def v_sv (s0 : State) (i b : Nat) : Prop := va_T .byte b (v_sb i).length (fun j => .int (v_tf (v_sb i) j)) (fun z => s0.heap.size ≤ z) s0 s0.heap
/-- a is the address of the String constant number i -/
def v_str (s0 : State) (i a : Nat) : Prop := va_O "java/lang/String" a (fun z => s0.heap.size ≤ z) s0 s0.heap ∧ va_OF "java/lang/String" "coder" "B" (.int 0) a (fun z => s0.heap.size ≤ z) s0 s0.heap ∧ ∃ b : Nat, va_OF "java/lang/String" "value" "[B" (.ref b) a (fun z => s0.heap.size ≤ z) s0 s0.heap ∧ v_sv s0 i b
def v_cast (s0 : State) (E T : String) : Prop := ∃ c t, s0.vm.findClass E = some c ∧ s0.vm.findClass T = some t ∧ s0.vm.assignable c t = true
def GC2 (l : Launch) (s0 : State) (D : va_G) (a0 : Array Value) : Prop := GC l s0 D a0 ∧ (∀ i : Nat, i < 8 → ∃ a : Nat, v_str s0 i a ∧ vk_R "DrawnWaysModel" (v_sq i).1 (v_sq i).2.1 a s0) ∧ va_Z "java/lang/String" "COMPACT_STRINGS" "Z" (.int 1) (fun z => s0.heap.size ≤ z) s0 s0.heap ∧ vx_Zq Bundle.tN "UNASSIGNED_STACK" Bundle.steD (fun z => s0.heap.size ≤ z) s0 s0.heap ∧ vx_Zq Bundle.tN "SUPPRESSED_SENTINEL" Bundle.listD (fun z => s0.heap.size ≤ z) s0 s0.heap ∧ vx_Zq "jdk/internal/util/Preconditions" "SIOOBE_FORMATTER" "Ljava/util/function/BiFunction;" (fun z => s0.heap.size ≤ z) s0 s0.heap ∧ v_cast s0 RX11 "DrawnWaysModel$Stop" ∧ v_cast s0 "java/util/NoSuchElementException" "java/util/NoSuchElementException"
section ST
variable {l : Launch} {s0 : State} {D : va_G} {d mc ms mc' ms' : Nat} {M M' : MI} {Post Post' : Option Value → AH → Prop} {PX PX' : Nat → String → AH → Prop} {pc idx : Nat} {lv : List (Nat × Value)} {st stk as : List Value} {h : AH} {a0 : Array Value}
theorem V_ldcs {i : Nat} (G : GC2 l s0 D a0) (hd : decode M.2.1 pc = .ok (.ldc idx, 2)) (hi : i < 8) (hown : M.1.cls = "DrawnWaysModel") (hidx : (v_sq i).1 = idx) (kk : ∀ a : Nat, v_str s0 i a → V l s0 D d mc ms M Post PX (pc + 2) lv (.ref a :: st) h) : V l s0 D d mc ms M Post PX pc lv st h := by
  intro p e R s m args below meth c H locs cells slots ls Q F r1 r2 r3 r4 fin w hS hl
  obtain ⟨hx0, hb, hml, ho, -, -, -, -, hts, hW⟩ := id F
  obtain ⟨a, hs, hR⟩ := G.2.1 i hi
  subst hidx
  exact va_ldcS hx0 hb (by rw [← hown]; exact ho) (vk_R.warm hW hR) hd (kk a hs p e R s m args below meth c H locs cells slots ls Q F r1 r2 r3 r4 fin w hS hl)
theorem V_ldcsw {i : Nat} (G : GC2 l s0 D a0) (hd : decode M.2.1 pc = .ok (.ldc_w idx, 3)) (hi : i < 8) (hown : M.1.cls = "DrawnWaysModel") (hidx : (v_sq i).1 = idx) (kk : ∀ a : Nat, v_str s0 i a → V l s0 D d mc ms M Post PX (pc + 3) lv (.ref a :: st) h) : V l s0 D d mc ms M Post PX pc lv st h := by
  intro p e R s m args below meth c H locs cells slots ls Q F r1 r2 r3 r4 fin w hS hl
  obtain ⟨hx0, hb, hml, ho, -, -, -, -, hts, hW⟩ := id F
  obtain ⟨a, hs, hR⟩ := G.2.1 i hi
  subst hidx
  have hZ := vk_R.warm hW hR
  intro T hT X
  obtain ⟨t, a1, b1⟩ := kk a hs p e R s m args below meth c H locs cells slots ls Q F r1 r2 r3 r4 fin w hS hl T hT X
  exact ⟨t, X.ldcStringW hx0 (by rw [← hown]; exact ho) (text := (v_sq i).2.1) (a := a) hZ.1 hZ.2 (g := F0 m pc ls st) rfl (by rw [hb]; exact hd) t a1, b1⟩
theorem thr_l {α β : Type} {a : α} {f : α → Option (β ⊕ (Nat × St))} {x : Option (β ⊕ (Nat × St))} (h : thr (.inl a) f = x) : f a = x := h
theorem V_gso {nm dd : String} {v : Value} {a : Nat} (hd : decode M.2.1 pc = .ok (.getfield idx, 3)) (hO : va_OF "java/lang/String" nm dd v a (fun z => s0.heap.size ≤ z) s0 s0.heap) (hlink : Cond.fieldLink M.1.cls idx "java/lang/String" nm dd ∈ gw) (kk : V l s0 D d mc ms M Post PX (pc + 3) lv (v :: st) h) : V l s0 D d mc ms M Post PX pc lv (.ref a :: st) h := by
  intro p e R s m args below meth c H locs cells slots ls Q F r1 r2 r3 r4 fin w hS hl
  obtain ⟨hx0, hb, hml, ho, -, -, -, -, hts, hW⟩ := id F
  obtain ⟨cf, k, i, f, cell, h1, h2, h3, h4, h5, h6⟩ := va_OF.moved hW.alike hO
  exact W.getf hx0 hb ho (hts _ hlink) h1 h2 (by rw [w.2.2 a (Array.getElem?_eq_some_iff.mp h3).1]; exact h3) h4 h5 rfl rfl hd (kk p e R s m args below meth c H locs cells slots ls Q F r1 r2 r3 r4 fin w hS hl)
theorem V_gsi {C n dd : String} {v : Value} (hd : decode M.2.1 pc = .ok (.getstatic idx, 3)) (hZ : va_Z C n dd v (fun z => s0.heap.size ≤ z) s0 s0.heap) (hlink : Cond.fieldLink M.1.cls idx C n dd ∈ gw) (kk : V l s0 D d mc ms M Post PX (pc + 3) lv (v :: st) h) : V l s0 D d mc ms M Post PX pc lv st h := by
  intro p e R s m args below meth c H locs cells slots ls Q F r1 r2 r3 r4 fin w hS hl
  obtain ⟨hx0, hb, hml, hown, -, -, -, -, hts, hW⟩ := id F
  obtain ⟨cf, kf, fi, f, a1, cell, h1, h2, h3, h4, h5, h6, h7, h8⟩ := va_Z.moved hW.alike hZ
  exact W.gets hx0 hb hown (hts _ hlink) h1 h2 h3 h4 (by rw [w.2.2 a1 (Array.getElem?_eq_some_iff.mp h5).1]; exact h5) (fun e => by rw [e] at h6; cases h6) h7 rfl hd (kk p e R s m args below meth c H locs cells slots ls Q F r1 r2 r3 r4 fin w hS hl)
theorem V_oalen {a N : Nat} {ty : FieldType} {f : Nat → Value} (hd : decode M.2.1 pc = .ok (.arraylength, 1)) (hT : va_T ty a N f (fun z => s0.heap.size ≤ z) s0 s0.heap) (kk : V l s0 D d mc ms M Post PX (pc + 1) lv (.int (Int32.ofNat N) :: st) h) : V l s0 D d mc ms M Post PX pc lv (.ref a :: st) h := by
  intro p e R s m args below meth c H locs cells slots ls Q F r1 r2 r3 r4 fin w hS hl
  obtain ⟨hx0, hb, hml, hown, -, -, -, -, hts, hW⟩ := id F
  obtain ⟨cell, h1, h2, h3, h4, h5, h6, h7⟩ := hT
  exact W.alen hx0 hb (by rw [w.2.2 a (Array.getElem?_eq_some_iff.mp h1).1]; exact h1) (State.isArrayOf_alike hW.alike h2) h5 rfl rfl hd (kk p e R s m args below meth c H locs cells slots ls Q F r1 r2 r3 r4 fin w hS hl)
theorem V_obald {a N : Nat} {f : Nat → Int32} {i : Int32} (hd : decode M.2.1 pc = .ok (.baload, 1)) (hT : va_T .byte a N (fun j => .int (f j)) (fun z => s0.heap.size ≤ z) s0 s0.heap) (hi : vp_in i N) (kk : V l s0 D d mc ms M Post PX (pc + 1) lv (.int (f i.toNatClampNeg) :: st) h) : V l s0 D d mc ms M Post PX pc lv (.int i :: .ref a :: st) h := by
  intro p e R s m args below meth c H locs cells slots ls Q F r1 r2 r3 r4 fin w hS hl
  obtain ⟨hx0, hb, hml, hown, -, -, -, -, hts, hW⟩ := id F
  obtain ⟨cell, h1, h2, h3, h4, h5, h6, h7⟩ := hT
  have hin : i.toNatClampNeg < N := Nat.not_le.mp fun q => hi (Or.inr q)
  exact W.bald hx0 hb (by rw [w.2.2 a (Array.getElem?_eq_some_iff.mp h1).1]; exact h1) (State.isArrayOf_alike hW.alike h2) h3 (fun q => hi (q.imp id (fun z => Nat.le_trans h4 z))) (h6 _ hin) rfl rfl hd (kk p e R s m args below meth c H locs cells slots ls Q F r1 r2 r3 r4 fin w hS hl)
theorem V_callVO {a : Nat} (hd : decode M.2.1 pc = .ok (.invokevirtual idx, 3)) (hc : v_cV M.1.cls idx M' as.length) (hO : va_O M'.1.cls a (fun z => s0.heap.size ≤ z) s0 s0.heap) (hS' : Sp l s0 D d mc' ms' M' Post' PX' (.ref a :: as) h) (hst : stk = as.reverse ++ .ref a :: st) (hw8 : (st.map fun v => v.category).sum ≤ 8)
    (hx : ∀ q E h', PX' q E h' → PX q E h' ∧ ∀ x ∈ M.2.2.2.2, covers x pc = false) (kk : ∀ v h', Post' v h' → V l s0 D (d + 1) mc ms M Post PX (pc + 3) lv (v_pu v st) h') : V l s0 D (d + 1) (mc + mc') (ms + ms') M Post PX pc lv stk h := by
  intro p e R s m args below meth c H locs cells slots ls Q F r1 r2 r3 r4 fin w hS hl
  obtain ⟨hx0, hb, hml, hown, -, -, -, -, hts, hW⟩ := id F
  obtain ⟨⟨hcode, hini, hnm, hloc⟩, hlink, hin, hsel⟩ := hc
  obtain ⟨cell, g1, g2, g3, g4⟩ := va_O.moved hW.alike hO
  exact v_go (vx_runV (n := as.length) ⟨hx0, hb, hml, hown, hts⟩ hS' ⟨callB_of (Ts := gw) as.length hts (gw_good M' hcode) rfl rfl rfl (hts _ hini) (hts _ hlink) hnm ⟨r1, by show 8 + (M'.2.2.1 + 11) + 64 * d ≤ R.locals; omega⟩, hts _ hin, hts _ hsel⟩ ⟨v_blind, ⟨cell, by rw [w.2.2 a (Array.getElem?_eq_some_iff.mp g1).1]; exact g1, g2, g3⟩, v_pre w hW⟩ rfl rfl hl.1 hst (lv_room hw8) hd ⟨by omega, by omega⟩) F r1 r2 r3 r4 fin hS hl hx kk
theorem V_athrow {k ci : Nat} {fs : List Value} {q : vw_C} (G : GC l s0 D a0) (hd : decode M.2.1 pc = .ok (.athrow, 1)) (hk : h[k]? = some (.inr (ci, fs))) (hci : ci < 100) (hc : vwCl[ci]? = some q) (htb : ∀ x ∈ M.2.2.2.2, covers x pc = false) (hp : PX (s0.heap.size + k) q.1 h) : V l s0 D d mc ms M Post PX pc lv (.ref (s0.heap.size + k) :: st) h := by
  intro p e R s m args below meth c H locs cells slots ls Q F r1 r2 r3 r4 fin w hS hl
  obtain ⟨hx0, hb, hml, hown, -, -, -, -, hts, hW⟩ := id F
  have hK : va_K D vwCl [] s := va_K.moved hW.alike G.1
  obtain ⟨r, h1, cell, q1, q2, q3, q4⟩ := w.2.1 k _ hk hci
  have kx := fin.2 (s0.heap.size + k) q.1 cell h H locs cells slots pc ls st hp w hS (by omega) (by omega) q1 q3 (by rw [q2]; exact (hK.1 ci q hc).2.1) htb
  intro T hT X
  obtain ⟨t, a1, b1⟩ := kx T hT X
  refine ⟨t, ?_, b1⟩
  jvm_step X.here [X.here.top, hx0, hb, hd, athrow.wp_sem]
  exact a1
end ST
theorem zJ0_38 : Cond.fieldLink RJ0 38 "java/lang/String" "COMPACT_STRINGS" "Z" ∈ gw := gw_t 1546 (by decide +kernel) rfl
theorem zJ0_9 : Cond.fieldLink RJ0 9 "java/lang/String" "value" "[B" ∈ gw := gw_t 2008 (by decide +kernel) rfl
theorem zJ0_15 : Cond.fieldLink RJ0 15 "java/lang/String" "coder" "B" ∈ gw := gw_t 2009 (by decide +kernel) rfl
theorem zJ0_1053 : Cond.fieldLink RJ0 1053 "jdk/internal/util/Preconditions" "SIOOBE_FORMATTER" "Ljava/util/function/BiFunction;" ∈ gw := gw_t 1562 (by decide +kernel) rfl

