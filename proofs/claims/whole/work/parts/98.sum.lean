theorem sm_add (f g : Nat → Nat) : ∀ r : List Nat, (r.map (fun j => f j + g j)).sum = (r.map f).sum + (r.map g).sum
  | [] => rfl
  | x :: r => by
    have ih := sm_add f g r
    simp only [List.map_cons, List.sum_cons] at *
    omega
theorem sm_mul (f : Nat → Nat) (c : Nat) : ∀ r : List Nat, (r.map f).sum * c = (r.map (fun j => f j * c)).sum
  | [] => by simp
  | x :: r => by
    have ih := sm_mul f c r
    simp only [List.map_cons, List.sum_cons] at *
    rw [Nat.add_mul, ih]
theorem sm_cg {f g : Nat → Nat} : ∀ {r : List Nat}, (∀ j, j ∈ r → f j = g j) → (r.map f).sum = (r.map g).sum
  | [], _ => rfl
  | x :: r, h => by
    have ih := sm_cg (f := f) (g := g) (r := r) (fun j hj => h j (List.mem_cons_of_mem _ hj))
    simp only [List.map_cons, List.sum_cons] at *
    rw [ih, h x (by simp)]
theorem sm_if (q : Nat → Bool) (K : Nat) : ∀ r : List Nat, (r.map (fun j => if q j = true then K else 0)).sum = r.countP q * K
  | [] => by simp
  | x :: r => by
    have ih := sm_if q K r
    simp only [List.map_cons, List.sum_cons, List.countP_cons] at *
    rw [ih, Nat.add_mul]
    by_cases c : q x = true
    · simp only [c, if_true]; omega
    · rw [if_neg c, if_neg c]; omega
theorem sm_zero (r : List Nat) : (r.map (fun _ => 0)).sum = 0 := by
  induction r with
  | nil => rfl
  | cons x r ih => simp only [List.map_cons, List.sum_cons, ih]
theorem sm_swap (r : List Nat) (q : Nat → Nat → Bool) (g : Nat → Nat) : ∀ l : List Nat, (r.map (fun j => l.countP (q j) * g j)).sum = (l.map (fun x => (r.map (fun j => if q j x = true then g j else 0)).sum)).sum
  | [] => by
    simp only [List.countP_nil, Nat.zero_mul, List.map_nil, List.sum_nil]
    exact sm_zero r
  | x :: l => by
    have ih := sm_swap r q g l
    rw [List.map_cons, List.sum_cons, ← ih, ← sm_add]
    apply sm_cg
    intro j _
    rw [List.countP_cons, Nat.add_mul]
    by_cases c : q j x = true
    · simp only [c, if_true]; omega
    · simp only [c]; simp
theorem sm_inner {r : List Nat} {q : Nat → Bool} {g : Nat → Nat} {K : Nat} (hp : 0 < r.countP q) (h : ∀ j, j ∈ r → q j = true → r.countP q * g j = K) : (r.map (fun j => if q j = true then g j else 0)).sum = K := by
  have e : (r.map (fun j => if q j = true then g j else 0)).sum * r.countP q = K * r.countP q := by
    rw [sm_mul, Nat.mul_comm K, ← sm_if]
    apply sm_cg
    intro j hj
    by_cases c : q j = true
    · rw [if_pos c, if_pos c, Nat.mul_comm]
      exact h j hj c
    · rw [if_neg c, if_neg c, Nat.zero_mul]
  exact Nat.eq_of_mul_eq_mul_right hp e
noncomputable def eqT (fi : Nat → Nat) (l : List Nat) (t : Nat → Nat → Nat) (ρ : Nat → Nat) : Bool := @decide (∀ a b, tl fi l ρ a b = t a b) (Classical.propDecidable _)
theorem eqT_iff {fi : Nat → Nat} {l : List Nat} {t : Nat → Nat → Nat} {ρ : Nat → Nat} : eqT fi l t ρ = true ↔ ∀ a b, tl fi l ρ a b = t a b := by
  unfold eqT
  exact @decide_eq_true_iff _ (Classical.propDecidable _)
theorem countP_cgF {α : Type} {l : List α} {p q : α → Bool} (h : ∀ i, i ∈ l → p i = q i) : l.countP p = l.countP q := by
  apply List.countP_congr
  intro i hi
  rw [h i hi]
theorem Hn_er {fi : Nat → Nat} {r : List Nat} {j : Nat} (hj : j ∈ r) : r.countP (fun x => fi x == fi j) * Hn fi (r.erase j) = Hn fi r := by
  have p := List.perm_cons_erase hj
  rw [Hn_perm p, Hn, p.countP_eq, List.countP_cons]
  simp only [beq_self_eq_true, if_true]
  rw [Nat.add_comm]
theorem cnt_row {fi kap fo : Nat → Nat} (hk : ∀ i j, fi i = fi j → kap i = kap j) (ff : ∀ i, fo (fo (kap i)) = kap i) : ∀ (k : Nat) (l : List Nat) (π ρ : Nat → Nat), l.length = 2 * k → l.Pairwise (· < ·) → Rw kap fo l ρ → (lv (okF kap fo) k l π).countP (eqT fi l (tl fi l ρ)) * aF fi l ρ = Hn fi l := by
  intro k
  induction k with
  | zero =>
    intro l π ρ h1 _ _
    have : l = [] := List.length_eq_zero_iff.mp (by omega)
    subst this
    have : eqT fi [] (tl fi [] ρ) π = true := eqT_iff.mpr (fun a b => by simp [tl])
    simp [lv, aF, pl, aP, Hn, this]
  | succ k ih =>
    intro l π ρ h1 hs w
    match l, h1, hs, w with
    | [], h1, _, _ => simp at h1
    | i :: r, h1, hs, w =>
      have nd := pw_nd hs
      have ndr : r.Nodup := (List.nodup_cons.mp nd).2
      have nir : ¬ i ∈ r := (List.nodup_cons.mp nd).1
      have hsr := (List.pairwise_cons.mp hs).2
      have key : ∀ j, j ∈ r → (List.countP (eqT fi (i :: r) (tl fi (i :: r) ρ)) (if okF kap fo i j = true then lv (okF kap fo) k (r.erase j) (up1 (up1 π i j) j i) else [])) * aF fi (i :: r) ρ = (i :: r).countP (fun x => fi x == fi i && fi (ρ x) == fi j) * Hn fi (r.erase j) := by
        intro j hj
        have hij : i ≠ j := fun e => nir (e ▸ hj)
        have len : (r.erase j).length = 2 * k := by
          rw [List.length_erase_of_mem hj]
          simp at h1
          omega
        have q1 : ¬ i ∈ r.erase j := fun h => nir (List.mem_of_mem_erase h)
        have q2 : ¬ j ∈ r.erase j := fun h => ((ndr.mem_erase_iff).mp h).1 (Eq.refl _)
        show _ = tl fi (i :: r) ρ (fi i) (fi j) * _
        by_cases T : 0 < tl fi (i :: r) ρ (fi i) (fi j)
        · obtain ⟨x, x1, x2, x3⟩ := tl_pos.mp T
          obtain ⟨ρ1, r1, v1⟩ := exch hk w (by simp) (List.mem_cons_of_mem _ hj) hij x1 x2 x3
          have w1 := r1.rw hk w
          have wt1 := (Rw_tail nd w1).2
          rw [v1] at wt1
          have tt1 := Rch_tl nd r1
          have g1 := w1 i (by simp)
          rw [v1] at g1
          have c : okF kap fo i j = true := by
            unfold okF
            exact beq_iff_eq.mpr g1.2.2.2
          rw [if_pos c]
          have e1 := ih (r.erase j) (up1 (up1 π i j) j i) ρ1 len (pw_er hsr) wt1
          have e2 := aF_tail (fi := fi) hs w1
          rw [v1, aF_tl nd w1 w tt1, tt1] at e2
          rw [e2, ← e1, Nat.mul_left_comm]
          congr 2
          apply countP_cgF
          intro ρ2 h2
          obtain ⟨w2, o2⟩ := (lv_mem ff k (r.erase j) _ ρ2 len (ndr.erase _)).mp h2
          have f1 : ρ2 i = j := by rw [o2 i q1, up1_ne _ _ hij, up1_self]
          have f2 : ρ2 j = i := by rw [o2 j q2, up1_self]
          have W := Rw_cons nd hj f1 f2 g1.2.2.2 (by rw [g1.2.2.2, ff]) w2
          rw [Bool.eq_iff_iff, eqT_iff, eqT_iff]
          have A : ∀ a b, tl fi (i :: r) ρ2 a b = tl fi (r.erase j) ρ2 a b + (if fi i = a ∧ fi j = b then 1 else 0) + (if fi j = a ∧ fi i = b then 1 else 0) := by
            intro a b
            rw [tl_tail nd W, f1]
          have B : ∀ a b, tl fi (i :: r) ρ a b = tl fi (r.erase j) ρ1 a b + (if fi i = a ∧ fi j = b then 1 else 0) + (if fi j = a ∧ fi i = b then 1 else 0) := by
            intro a b
            rw [← tt1, tl_tail nd w1, v1]
          constructor
          · intro h a b
            have := h a b
            rw [A, B] at this
            omega
          · intro h a b
            rw [A, B, h]
        · have T0 : tl fi (i :: r) ρ (fi i) (fi j) = 0 := by omega
          rw [T0, Nat.zero_mul]
          by_cases c : okF kap fo i j = true
          · rw [if_pos c]
            have z : List.countP (eqT fi (i :: r) (tl fi (i :: r) ρ)) (lv (okF kap fo) k (r.erase j) (up1 (up1 π i j) j i)) = 0 := by
              rw [List.countP_eq_zero]
              intro ρ2 h2 h3
              obtain ⟨w2, o2⟩ := (lv_mem ff k (r.erase j) _ ρ2 len (ndr.erase _)).mp h2
              have f1 : ρ2 i = j := by rw [o2 i q1, up1_ne _ _ hij, up1_self]
              have := eqT_iff.mp h3 (fi i) (fi j)
              have p : 0 < tl fi (i :: r) ρ2 (fi i) (fi j) := tl_pos.mpr ⟨i, by simp, Eq.refl _, by rw [f1]⟩
              omega
            rw [z, Nat.zero_mul]
          · rw [if_neg c, List.countP_nil, Nat.zero_mul]
      rw [lv, List.countP_flatMap]
      have e0 : (List.map (List.countP (eqT fi (i :: r) (tl fi (i :: r) ρ)) ∘ fun j => if okF kap fo i j = true then lv (okF kap fo) k (r.erase j) (up1 (up1 π i j) j i) else []) r).sum * aF fi (i :: r) ρ = (r.map (fun j => (i :: r).countP (fun x => fi x == fi i && fi (ρ x) == fi j) * Hn fi (r.erase j))).sum := by
        rw [sm_mul]
        apply sm_cg
        intro j hj
        exact key j hj
      rw [e0, sm_swap r (fun j x => fi x == fi i && fi (ρ x) == fi j) (fun j => Hn fi (r.erase j))]
      have e1 : ((i :: r).map (fun x => (r.map (fun j => if (fi x == fi i && fi (ρ x) == fi j) = true then Hn fi (r.erase j) else 0)).sum)).sum = ((i :: r).map (fun x => if (fi x == fi i) = true then Hn fi r else 0)).sum := by
        apply sm_cg
        intro x hx
        by_cases c : fi x = fi i
        · simp only [c, beq_self_eq_true, Bool.true_and, if_true]
          apply sm_inner (q := fun j => fi (ρ x) == fi j)
          · rw [List.countP_pos_iff]
            have hx1 := (w x hx)
            by_cases d : ρ x = i
            · have hxr : x ∈ r := by
                rw [List.mem_cons] at hx
                refine hx.resolve_left (fun e => hx1.2.2.1 (by rw [d, e]))
              exact ⟨x, hxr, by rw [d, c]; exact beq_self_eq_true _⟩
            · have := hx1.1
              rw [List.mem_cons] at this
              exact ⟨ρ x, this.resolve_left d, beq_self_eq_true _⟩
          · intro j hj hq
            have hq := beq_iff_eq.mp hq
            rw [hq, ← Hn_er (fi := fi) hj]
            congr 1
            apply countP_cg
            intro y _
            rw [Bool.eq_iff_iff, beq_iff_eq, beq_iff_eq]
            exact eq_comm
        · have c' : (fi x == fi i) = false := beq_eq_false_iff_ne.mpr c
          simp only [c', Bool.false_and]
          simp only [Bool.false_eq_true, if_false]
          exact sm_zero r
      rw [e1, sm_if, List.countP_cons, Hn]
      simp only [beq_self_eq_true, if_true]
      rw [Nat.add_comm]
