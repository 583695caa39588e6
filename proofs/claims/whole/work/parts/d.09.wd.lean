/-! THE STATE. A shape sh says of each cell what it is (an array of a type and a length; an object: its class, and of each field its kind: 0 an int, 1 a long, 2 a reference to the cell that many behind its own, 3 a reference that may change); a state S holds the contents. wd B sh S: the abstract heap. -/
def v_rf (B : Nat) (r : Option Nat) : Value := match r with
  | none => .null
  | some a => .ref (B + a)
def v_fV (B : Nat) (S : St) (k j : Nat) (q : Nat × Nat) : Value := match q.1 with
  | 0 => .int (sI S k j)
  | 1 => .long (sJ S k j)
  | 2 => .ref (B + (k + q.2))
  | _ => v_rf B (sR S k j)
def v_ce (B : Nat) (S : St) (k : Nat) (c : Sh) : AC := match c with
  | .inl x => match x.1 with
    | .long => .inl (.long, x.2, .inr (.inl (sL S k)))
    | t => .inl (t, x.2, .inl (sA S k))
  | .inr o => .inr (o.1, o.2.mapIdx (fun j q => v_fV B S k j q))
def wd (B : Nat) (sh : List Sh) (S : St) : AH := sh.mapIdx (fun k c => v_ce B S k c)
theorem wd_at {B : Nat} {sh : List Sh} {S : St} {k : Nat} {c : Sh} (h : sh[k]? = some c) : (wd B sh S)[k]? = some (v_ce B S k c) := by
  rw [wd, List.getElem?_mapIdx, h]
  rfl
theorem wd_fld {B : Nat} {S : St} {k j : Nat} {ks : List (Nat × Nat)} {q : Nat × Nat} (h : ks[j]? = some q) : (ks.mapIdx (fun j q => v_fV B S k j q))[j]? = some (v_fV B S k j q) := by
  rw [List.getElem?_mapIdx, h]
  rfl
theorem v_ce_congr {B : Nat} {S S' : St} {k : Nat} (h1 : sA S' k = sA S k) (h2 : sL S' k = sL S k) (h3 : sI S' k = sI S k) (h4 : sJ S' k = sJ S k) (h5 : sR S' k = sR S k) (c : Sh) : v_ce B S' k c = v_ce B S k c := by
  unfold v_ce
  cases c with
  | inl x => rw [h1, h2]
  | inr o =>
    simp only [v_fV, h3, h4, h5]
theorem wd_set {B : Nat} {sh : List Sh} {S S' : St} {k : Nat} {c : Sh} {c1 : AC} (h : sh[k]? = some c) (ho : ∀ i, i ≠ k → sA S' i = sA S i ∧ sL S' i = sL S i ∧ sI S' i = sI S i ∧ sJ S' i = sJ S i ∧ sR S' i = sR S i) (hc : v_ce B S' k c = c1) : (wd B sh S).set k c1 = wd B sh S' := by
  apply List.ext_getElem?
  intro i
  by_cases e : i = k
  · subst e
    have hlt : i < (wd B sh S).length := (List.getElem?_eq_some_iff.mp (wd_at (B := B) (S := S) h)).1
    rw [List.getElem?_set_self hlt, wd_at h, hc]
  · rw [List.getElem?_set_ne (fun q => e q.symm)]
    unfold wd
    rw [List.getElem?_mapIdx, List.getElem?_mapIdx]
    obtain ⟨h1, h2, h3, h4, h5⟩ := ho i e
    cases sh[i]? with
    | none => rfl
    | some x => exact congrArg some (v_ce_congr h1 h2 h3 h4 h5 x).symm
theorem wd_fset {B : Nat} {S S' : St} {k j : Nat} {ks : List (Nat × Nat)} {q : Nat × Nat} {v : Value} (h : ks[j]? = some q) (hv : v_fV B S' k j q = v) (ho : ∀ i, i ≠ j → sI S' k i = sI S k i ∧ sJ S' k i = sJ S k i ∧ sR S' k i = sR S k i) : ks.mapIdx (fun j q => v_fV B S' k j q) = (ks.mapIdx (fun j q => v_fV B S k j q)).set j v := by
  apply List.ext_getElem?
  intro i
  by_cases e : i = j
  · subst e
    have hlt : i < (ks.mapIdx (fun j q => v_fV B S k j q)).length := (List.getElem?_eq_some_iff.mp (wd_fld (B := B) (S := S) (k := k) h)).1
    rw [List.getElem?_set_self hlt, wd_fld h, hv]
  · rw [List.getElem?_set_ne (fun q => e q.symm), List.getElem?_mapIdx, List.getElem?_mapIdx]
    obtain ⟨h1, h2, h3⟩ := ho i e
    cases ks[i]? with
    | none => rfl
    | some x =>
      refine congrArg some ?_
      simp only [v_fV, h1, h2, h3]
section WR
variable {l : Launch} {s0 : State} {D : va_G} {d mc ms : Nat} {M : MI} {Post : Option Value → AH → Prop} {PX : Nat → String → AH → Prop} {pc : Nat} {lv : List (Nat × Value)} {st : List Value} {a0 : Array Value} {sh : List Sh} {S : St} {idx ci j k : Nat} {ks : List (Nat × Nat)}
theorem X_gI {o : Nat} (G : GC l s0 D a0) (hd : decode M.2.1 pc = .ok (.getfield idx, 3)) (hf : v_fld M.1.cls idx ci j) (hk : sh[k]? = some (.inr (ci, ks))) (hj : ks[j]? = some (0, o)) (kk : V l s0 D d mc ms M Post PX (pc + 3) lv (.int (sI S k j) :: st) (wd s0.heap.size sh S)) : V l s0 D d mc ms M Post PX pc lv (.ref (s0.heap.size + k) :: st) (wd s0.heap.size sh S) := V_getf G hd hf (wd_at hk) (wd_fld hj) kk
theorem X_gJ {o : Nat} (G : GC l s0 D a0) (hd : decode M.2.1 pc = .ok (.getfield idx, 3)) (hf : v_fld M.1.cls idx ci j) (hk : sh[k]? = some (.inr (ci, ks))) (hj : ks[j]? = some (1, o)) (kk : V l s0 D d mc ms M Post PX (pc + 3) lv (.long (sJ S k j) :: st) (wd s0.heap.size sh S)) : V l s0 D d mc ms M Post PX pc lv (.ref (s0.heap.size + k) :: st) (wd s0.heap.size sh S) := V_getf G hd hf (wd_at hk) (wd_fld hj) kk
theorem X_gC {o : Nat} (G : GC l s0 D a0) (hd : decode M.2.1 pc = .ok (.getfield idx, 3)) (hf : v_fld M.1.cls idx ci j) (hk : sh[k]? = some (.inr (ci, ks))) (hj : ks[j]? = some (2, o)) (kk : V l s0 D d mc ms M Post PX (pc + 3) lv (.ref (s0.heap.size + (k + o)) :: st) (wd s0.heap.size sh S)) : V l s0 D d mc ms M Post PX pc lv (.ref (s0.heap.size + k) :: st) (wd s0.heap.size sh S) := V_getf G hd hf (wd_at hk) (wd_fld hj) kk
theorem X_gR {o a : Nat} (G : GC l s0 D a0) (hd : decode M.2.1 pc = .ok (.getfield idx, 3)) (hf : v_fld M.1.cls idx ci j) (hk : sh[k]? = some (.inr (ci, ks))) (hj : ks[j]? = some (3, o)) (hr : sR S k j = some a) (kk : V l s0 D d mc ms M Post PX (pc + 3) lv (.ref (s0.heap.size + a) :: st) (wd s0.heap.size sh S)) : V l s0 D d mc ms M Post PX pc lv (.ref (s0.heap.size + k) :: st) (wd s0.heap.size sh S) := V_getf G hd hf (wd_at hk) (wd_fld hj) (by show V _ _ _ _ _ _ _ _ _ _ _ (v_rf s0.heap.size (sR S k j) :: st) _; rw [hr]; exact kk)
theorem X_gN {o : Nat} (G : GC l s0 D a0) (hd : decode M.2.1 pc = .ok (.getfield idx, 3)) (hf : v_fld M.1.cls idx ci j) (hk : sh[k]? = some (.inr (ci, ks))) (hj : ks[j]? = some (3, o)) (hr : sR S k j = none) (kk : V l s0 D d mc ms M Post PX (pc + 3) lv (.null :: st) (wd s0.heap.size sh S)) : V l s0 D d mc ms M Post PX pc lv (.ref (s0.heap.size + k) :: st) (wd s0.heap.size sh S) := V_getf G hd hf (wd_at hk) (wd_fld hj) (by show V _ _ _ _ _ _ _ _ _ _ _ (v_rf s0.heap.size (sR S k j) :: st) _; rw [hr]; exact kk)
theorem X_pI {o : Nat} {x : Int32} {ty : FieldType} (G : GC l s0 D a0) (hd : decode M.2.1 pc = .ok (.putfield idx, 3)) (hf : v_fldP M.1.cls idx ci j ty false) (hk : sh[k]? = some (.inr (ci, ks))) (hj : ks[j]? = some (0, o)) (hn : narrow ty (.int x) = .int x) (hfit : fits ty (.int x) = true) (kk : V l s0 D d mc ms M Post PX (pc + 3) lv st (wd s0.heap.size sh (uI S k j x))) : V l s0 D d mc ms M Post PX pc lv (.int x :: .ref (s0.heap.size + k) :: st) (wd s0.heap.size sh S) := by
  refine V_putf G hd hf (wd_at hk) hn hfit (by rw [List.length_mapIdx]; exact (List.getElem?_eq_some_iff.mp hj).1) (fun h => by cases h) ?_
  rw [wd_set (S' := uI S k j x) hk (fun i h => uI_o h) (congrArg (fun z => Sum.inr (ci, z)) (wd_fset (S := S) hj (by show Value.int (sI (uI S k j x) k j) = _; exact congrArg Value.int (up2_self _ k j x)) (fun i h => ⟨up2_ne _ _ _ h, rfl, rfl⟩)))]
  exact kk
theorem X_pJ {o : Nat} {x : Int64} (G : GC l s0 D a0) (hd : decode M.2.1 pc = .ok (.putfield idx, 3)) (hf : v_fldP M.1.cls idx ci j .long false) (hk : sh[k]? = some (.inr (ci, ks))) (hj : ks[j]? = some (1, o)) (kk : V l s0 D d mc ms M Post PX (pc + 3) lv st (wd s0.heap.size sh (uJ S k j x))) : V l s0 D d mc ms M Post PX pc lv (.long x :: .ref (s0.heap.size + k) :: st) (wd s0.heap.size sh S) := by
  refine V_putf G hd hf (wd_at hk) rfl rfl (by rw [List.length_mapIdx]; exact (List.getElem?_eq_some_iff.mp hj).1) (fun h => by cases h) ?_
  rw [wd_set (S' := uJ S k j x) hk (fun i h => uJ_o h) (congrArg (fun z => Sum.inr (ci, z)) (wd_fset (S := S) hj (by show Value.long (sJ (uJ S k j x) k j) = _; exact congrArg Value.long (up2_self _ k j x)) (fun i h => ⟨rfl, up2_ne _ _ _ h, rfl⟩)))]
  exact kk
theorem X_pR {o a : Nat} {ty : FieldType} (G : GC l s0 D a0) (hd : decode M.2.1 pc = .ok (.putfield idx, 3)) (hf : v_fldP M.1.cls idx ci j ty false) (hk : sh[k]? = some (.inr (ci, ks))) (hj : ks[j]? = some (3, o)) (hn : narrow ty (.ref (s0.heap.size + a)) = .ref (s0.heap.size + a)) (hfit : fits ty (.ref (s0.heap.size + a)) = true) (kk : V l s0 D d mc ms M Post PX (pc + 3) lv st (wd s0.heap.size sh (uR S k j (some a)))) : V l s0 D d mc ms M Post PX pc lv (.ref (s0.heap.size + a) :: .ref (s0.heap.size + k) :: st) (wd s0.heap.size sh S) := by
  refine V_putf G hd hf (wd_at hk) hn hfit (by rw [List.length_mapIdx]; exact (List.getElem?_eq_some_iff.mp hj).1) (fun h => by cases h) ?_
  rw [wd_set (S' := uR S k j (some a)) hk (fun i h => uR_o h) (congrArg (fun z => Sum.inr (ci, z)) (wd_fset (S := S) hj (by show v_rf _ (sR (uR S k j (some a)) k j) = _; exact congrArg (v_rf s0.heap.size) (up2_self _ k j (some a))) (fun i h => ⟨rfl, rfl, up2_ne _ _ _ h⟩)))]
  exact kk
theorem X_iald {n : Nat} {i : Int32} (hd : decode M.2.1 pc = .ok (.iaload, 1)) (hk : sh[k]? = some (.inl (.int, n))) (hi : vp_in i n) (kk : V l s0 D d mc ms M Post PX (pc + 1) lv (.int (sA S k i.toNatClampNeg) :: st) (wd s0.heap.size sh S)) : V l s0 D d mc ms M Post PX pc lv (.int i :: .ref (s0.heap.size + k) :: st) (wd s0.heap.size sh S) := V_iald hd (wd_at hk) hi kk
theorem X_bald {n : Nat} {i : Int32} (hd : decode M.2.1 pc = .ok (.baload, 1)) (hk : sh[k]? = some (.inl (.byte, n))) (hi : vp_in i n) (kk : V l s0 D d mc ms M Post PX (pc + 1) lv (.int (sA S k i.toNatClampNeg) :: st) (wd s0.heap.size sh S)) : V l s0 D d mc ms M Post PX pc lv (.int i :: .ref (s0.heap.size + k) :: st) (wd s0.heap.size sh S) := V_bald hd (wd_at hk) hi kk
theorem X_zald {n : Nat} {i : Int32} (hd : decode M.2.1 pc = .ok (.baload, 1)) (hk : sh[k]? = some (.inl (.boolean, n))) (hi : vp_in i n) (kk : V l s0 D d mc ms M Post PX (pc + 1) lv (.int (sA S k i.toNatClampNeg) :: st) (wd s0.heap.size sh S)) : V l s0 D d mc ms M Post PX pc lv (.int i :: .ref (s0.heap.size + k) :: st) (wd s0.heap.size sh S) := V_zald hd (wd_at hk) hi kk
theorem X_lald {n : Nat} {i : Int32} (hd : decode M.2.1 pc = .ok (.laload, 1)) (hk : sh[k]? = some (.inl (.long, n))) (hi : vp_in i n) (kk : V l s0 D d mc ms M Post PX (pc + 1) lv (.long (sL S k i.toNatClampNeg) :: st) (wd s0.heap.size sh S)) : V l s0 D d mc ms M Post PX pc lv (.int i :: .ref (s0.heap.size + k) :: st) (wd s0.heap.size sh S) := V_lald hd (wd_at hk) hi kk
theorem up1_upd (f : Nat → Int32) (i : Nat) (x : Int32) : up1 f i x = upd f i x := by
  funext q
  by_cases e : q = i
  · subst e
    rw [up1_self]; simp [upd]
  · rw [up1_ne _ _ e]; simp [upd, e]
theorem up1_updL (f : Nat → Int64) (i : Nat) (x : Int64) : up1 f i x = vp_updL f i x := by
  funext q
  by_cases e : q = i
  · subst e
    rw [up1_self]; simp [vp_updL]
  · rw [up1_ne _ _ e]; simp [vp_updL, e]
theorem X_iast {n : Nat} {i x : Int32} (hd : decode M.2.1 pc = .ok (.iastore, 1)) (hk : sh[k]? = some (.inl (.int, n))) (hi : vp_in i n) (kk : V l s0 D d mc ms M Post PX (pc + 1) lv st (wd s0.heap.size sh (uA S k i.toNatClampNeg x))) : V l s0 D d mc ms M Post PX pc lv (.int x :: .int i :: .ref (s0.heap.size + k) :: st) (wd s0.heap.size sh S) := by
  refine V_iast hd (wd_at hk) hi ?_
  rw [wd_set (S' := uA S k i.toNatClampNeg x) hk (fun i h => uA_o h) (by show (Sum.inl (FieldType.int, n, Sum.inl (up2 S.1 k i.toNatClampNeg x k)) : AC) = _; rw [up2, up1_self, up1_upd]; rfl)]
  exact kk
theorem X_bast {n : Nat} {i x : Int32} (hd : decode M.2.1 pc = .ok (.bastore, 1)) (hk : sh[k]? = some (.inl (.byte, n))) (hi : vp_in i n) (kk : V l s0 D d mc ms M Post PX (pc + 1) lv st (wd s0.heap.size sh (uA S k i.toNatClampNeg (vp_nar .byte x)))) : V l s0 D d mc ms M Post PX pc lv (.int x :: .int i :: .ref (s0.heap.size + k) :: st) (wd s0.heap.size sh S) := by
  refine V_bast hd (wd_at hk) hi ?_
  rw [wd_set (S' := uA S k i.toNatClampNeg (vp_nar .byte x)) hk (fun i h => uA_o h) (by show (Sum.inl (FieldType.byte, n, Sum.inl (up2 S.1 k i.toNatClampNeg (vp_nar .byte x) k)) : AC) = _; rw [up2, up1_self, up1_upd]; rfl)]
  exact kk
theorem X_zast {n : Nat} {i x : Int32} (hd : decode M.2.1 pc = .ok (.bastore, 1)) (hk : sh[k]? = some (.inl (.boolean, n))) (hi : vp_in i n) (kk : V l s0 D d mc ms M Post PX (pc + 1) lv st (wd s0.heap.size sh (uA S k i.toNatClampNeg (vp_nar .boolean x)))) : V l s0 D d mc ms M Post PX pc lv (.int x :: .int i :: .ref (s0.heap.size + k) :: st) (wd s0.heap.size sh S) := by
  refine V_zast hd (wd_at hk) hi ?_
  rw [wd_set (S' := uA S k i.toNatClampNeg (vp_nar .boolean x)) hk (fun i h => uA_o h) (by show (Sum.inl (FieldType.boolean, n, Sum.inl (up2 S.1 k i.toNatClampNeg (vp_nar .boolean x) k)) : AC) = _; rw [up2, up1_self, up1_upd]; rfl)]
  exact kk
theorem X_last {n : Nat} {i : Int32} {x : Int64} (hd : decode M.2.1 pc = .ok (.lastore, 1)) (hk : sh[k]? = some (.inl (.long, n))) (hi : vp_in i n) (kk : V l s0 D d mc ms M Post PX (pc + 1) lv st (wd s0.heap.size sh (uL S k i.toNatClampNeg x))) : V l s0 D d mc ms M Post PX pc lv (.long x :: .int i :: .ref (s0.heap.size + k) :: st) (wd s0.heap.size sh S) := by
  refine V_last hd (wd_at hk) hi ?_
  rw [wd_set (S' := uL S k i.toNatClampNeg x) hk (fun i h => uL_o h) (by show (Sum.inl (FieldType.long, n, Sum.inr (Sum.inl (up2 S.2.1 k i.toNatClampNeg x k))) : AC) = _; rw [up2, up1_self, up1_updL]; rfl)]
  exact kk
theorem X_alen {n : Nat} {ty : FieldType} (hd : decode M.2.1 pc = .ok (.arraylength, 1)) (hk : sh[k]? = some (.inl (ty, n))) (kk : V l s0 D d mc ms M Post PX (pc + 1) lv (.int (Int32.ofNat n) :: st) (wd s0.heap.size sh S)) : V l s0 D d mc ms M Post PX pc lv (.ref (s0.heap.size + k) :: st) (wd s0.heap.size sh S) := by
  have h1 := wd_at (B := s0.heap.size) (S := S) hk
  have h2 : ∃ x : FieldType × vp_A, v_ce s0.heap.size S k (.inl (ty, n)) = .inl x ∧ x.2.1 = n := by
    unfold v_ce
    cases ty <;> exact ⟨_, rfl, rfl⟩
  obtain ⟨x, e1, e2⟩ := h2
  rw [e1] at h1
  exact V_alen hd h1 (by rw [e2]; exact kk)
end WR

