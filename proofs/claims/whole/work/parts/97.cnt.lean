/-! HOW MANY rows have given joins. -/
def lv (ok : Nat → Nat → Bool) : Nat → List Nat → (Nat → Nat) → List (Nat → Nat)
  | 0, _, π => [π]
  | _ + 1, [], _ => []
  | k + 1, i :: r, π => r.flatMap (fun j => if ok i j = true then lv ok k (r.erase j) (up1 (up1 π i j) j i) else [])
def okF (kap fo : Nat → Nat) (i j : Nat) : Bool := kap j == fo (kap i)
theorem lv_mem {kap fo : Nat → Nat} (ff : ∀ i, fo (fo (kap i)) = kap i) : ∀ (k : Nat) (l : List Nat) (π ρ : Nat → Nat), l.length = 2 * k → l.Nodup → (ρ ∈ lv (okF kap fo) k l π ↔ Rw kap fo l ρ ∧ ∀ i, ¬ i ∈ l → ρ i = π i) := by
  intro k
  induction k with
  | zero =>
    intro l π ρ h1 _
    have : l = [] := List.length_eq_zero_iff.mp (by omega)
    subst this
    rw [lv, List.mem_singleton]
    constructor
    · rintro rfl
      exact ⟨fun i hi => by simp at hi, fun i _ => rfl⟩
    · rintro ⟨_, h⟩
      funext i
      exact h i (by simp)
  | succ k ih =>
    intro l π ρ h1 nd
    match l, h1, nd with
    | [], h1, _ => simp at h1
    | i :: r, h1, nd =>
      have ndr : r.Nodup := (List.nodup_cons.mp nd).2
      have nir : ¬ i ∈ r := (List.nodup_cons.mp nd).1
      rw [lv, List.mem_flatMap]
      constructor
      · rintro ⟨j, hj, hm⟩
        by_cases c : okF kap fo i j = true
        · rw [if_pos c] at hm
          have len : (r.erase j).length = 2 * k := by
            rw [List.length_erase_of_mem hj]
            simp at h1
            omega
          obtain ⟨w, out⟩ := (ih _ _ _ len (ndr.erase _)).mp hm
          have q1 : ¬ i ∈ r.erase j := fun h => nir (List.mem_of_mem_erase h)
          have q2 : ¬ j ∈ r.erase j := fun h => ((ndr.mem_erase_iff).mp h).1 (Eq.refl _)
          have hij : i ≠ j := fun e => nir (e ▸ hj)
          have e1 : ρ i = j := by rw [out i q1, up1_ne _ _ hij, up1_self]
          have e2 : ρ j = i := by rw [out j q2, up1_self]
          have k1 : kap j = fo (kap i) := by
            unfold okF at c
            exact beq_iff_eq.mp c
          refine ⟨Rw_cons nd hj e1 e2 k1 (by rw [k1, ff]) w, fun m hm => ?_⟩
          rw [List.mem_cons] at hm
          have m1 : m ≠ i := fun e => hm (Or.inl e)
          have m2 : m ≠ j := fun e => hm (Or.inr (e ▸ hj))
          rw [out m (fun h => hm (Or.inr (List.mem_of_mem_erase h))), up1_ne _ _ m2, up1_ne _ _ m1]
        · rw [if_neg c] at hm
          simp at hm
      · rintro ⟨w, out⟩
        have h0 := w i (by simp)
        obtain ⟨hj, wt⟩ := Rw_tail nd w
        refine ⟨ρ i, hj, ?_⟩
        have c : okF kap fo i (ρ i) = true := by
          unfold okF
          exact beq_iff_eq.mpr h0.2.2.2
        rw [if_pos c]
        have len : (r.erase (ρ i)).length = 2 * k := by
          rw [List.length_erase_of_mem hj]
          simp at h1
          omega
        refine (ih _ _ _ len (ndr.erase _)).mpr ⟨wt, fun m hm => ?_⟩
        rw [up1_if, up1_if]
        by_cases d : m = ρ i
        · rw [if_pos d, d, h0.2.1]
        · rw [if_neg d]
          by_cases e : m = i
          · rw [if_pos e, e]
          · rw [if_neg e]
            apply out
            intro h
            rw [List.mem_cons] at h
            exact hm ((ndr.mem_erase_iff).mpr ⟨d, h.resolve_left e⟩)
/-- orders of alike legs, in all -/
def Hn (fi : Nat → Nat) : List Nat → Nat
  | [] => 1
  | i :: r => (1 + r.countP (fun j => fi j == fi i)) * Hn fi r
theorem Hn_perm {fi : Nat → Nat} {l l' : List Nat} (h : l.Perm l') : Hn fi l = Hn fi l' := by
  induction h with
  | nil => rfl
  | cons x p ih => rw [Hn, Hn, ih, p.countP_eq]
  | swap x y l =>
    rw [Hn, Hn, Hn, Hn, List.countP_cons, List.countP_cons]
    by_cases c : fi x = fi y
    · simp only [c]
    · have c' : ¬ fi y = fi x := fun h => c h.symm
      simp only [beq_iff_eq, if_neg c, if_neg c', Nat.add_zero]
      rw [Nat.mul_left_comm]
  | trans _ _ a b => rw [a, b]
def nm (a b : Nat) : Nat × Nat := (min a b, max a b)
/-- orders of joins that look alike, turned round or not -/
def aP : List (Nat × Nat) → Nat
  | [] => 1
  | x :: q => (1 + q.count x) * (if x.1 = x.2 then 2 else 1) * aP q
theorem aP_perm {l l' : List (Nat × Nat)} (h : l.Perm l') : aP l = aP l' := by
  induction h with
  | nil => rfl
  | cons x p ih => rw [aP, aP, ih, p.count_eq]
  | swap x y l =>
    rw [aP, aP, aP, aP, List.count_cons, List.count_cons]
    by_cases c : x = y
    · subst c; rfl
    · have c' : ¬ y = x := fun h => c h.symm
      simp only [beq_iff_eq, if_neg c, if_neg c', Nat.add_zero]
      generalize (if x.1 = x.2 then 2 else 1 : Nat) = u
      generalize (if y.1 = y.2 then 2 else 1 : Nat) = v
      rw [Nat.mul_left_comm]
  | trans _ _ a b => rw [a, b]
/-- the joins of a row, by their legs' first alike ones -/
def pl (fi : Nat → Nat) (l : List Nat) (ρ : Nat → Nat) : List (Nat × Nat) := (l.filter (fun i => decide (i < ρ i))).map (fun i => nm (fi i) (fi (ρ i)))
theorem nm_eq {a b c d : Nat} : nm a b = nm c d ↔ a = c ∧ b = d ∨ a = d ∧ b = c := by
  unfold nm
  rw [Prod.mk.injEq]
  omega
theorem pl_count {fi : Nat → Nat} {l : List Nat} {ρ : Nat → Nat} (a b : Nat) : (pl fi l ρ).count (nm a b) = jt fi l ρ a b := by
  unfold pl jt
  rw [List.count, List.countP_map, List.countP_filter]
  apply countP_cg
  intro i _
  rw [Bool.eq_iff_iff]
  simp only [Function.comp, Bool.and_eq_true, Bool.or_eq_true, beq_iff_eq, decide_eq_true_eq, nm_eq]
  exact ⟨fun h => ⟨h.2, h.1⟩, fun h => ⟨h.2, h.1⟩⟩
theorem pl_norm {fi : Nat → Nat} {l : List Nat} {ρ : Nat → Nat} {x : Nat × Nat} (h : x ∈ pl fi l ρ) : x = nm x.1 x.2 := by
  unfold pl at h
  rw [List.mem_map] at h
  obtain ⟨i, _, rfl⟩ := h
  unfold nm
  simp only [Prod.mk.injEq]
  omega
theorem pl_perm {fi fi' : Nat → Nat} {l l' : List Nat} {ρ ρ' : Nat → Nat} (h : ∀ a b, jt fi l ρ a b = jt fi' l' ρ' a b) : (pl fi l ρ).Perm (pl fi' l' ρ') := by
  rw [List.perm_iff_count]
  intro x
  by_cases c : x = nm x.1 x.2
  · rw [c, pl_count, pl_count, h]
  · rw [List.count_eq_zero.mpr (fun m => c (pl_norm m)), List.count_eq_zero.mpr (fun m => c (pl_norm m))]
theorem pl_tail {fi kap fo : Nat → Nat} {i : Nat} {r : List Nat} {ρ : Nat → Nat} (nd : (i :: r).Nodup) (hi : ∀ j, j ∈ r → i < j) (w : Rw kap fo (i :: r) ρ) : pl fi (i :: r) ρ = nm (fi i) (fi (ρ i)) :: pl fi (r.erase (ρ i)) ρ := by
  have h0 := w i (by simp)
  have hj := (Rw_tail nd w).1
  have ndr : r.Nodup := (List.nodup_cons.mp nd).2
  have lt := hi _ hj
  unfold pl
  rw [List.filter_cons, if_pos (decide_eq_true lt), List.map_cons, ndr.erase_eq_filter, List.filter_filter]
  congr 2
  apply List.filter_congr
  intro m _
  by_cases c : m = ρ i
  · subst c
    rw [h0.2.1, decide_eq_false (by omega)]
    rfl
  · rw [show (m != ρ i) = true from bne_iff_ne.mpr c, Bool.and_true]
def aF (fi : Nat → Nat) (l : List Nat) (ρ : Nat → Nat) : Nat := aP (pl fi l ρ)
theorem aF_tl {kap fo fi fi' : Nat → Nat} {l : List Nat} {π π' : Nat → Nat} (nd : l.Nodup) (w : Rw kap fo l π) (w' : Rw kap fo l π') (h : ∀ a b, tl fi l π a b = tl fi' l π' a b) : aF fi l π = aF fi' l π' := aP_perm (pl_perm (jt_of_tl nd w w' h))
theorem aF_tail {fi kap fo : Nat → Nat} {i : Nat} {r : List Nat} {ρ : Nat → Nat} (hs : (i :: r).Pairwise (· < ·)) (w : Rw kap fo (i :: r) ρ) : aF fi (i :: r) ρ = tl fi (i :: r) ρ (fi i) (fi (ρ i)) * aF fi (r.erase (ρ i)) ρ := by
  have nd := pw_nd hs
  have e := jt_tl (fi := fi) (i :: r).length (Nat.le_refl _) nd w (fi i) (fi (ρ i))
  have j := jt_tail (fi := fi) nd w (fi i) (fi (ρ i))
  rw [if_pos (Or.inl ⟨rfl, rfl⟩)] at j
  unfold aF
  rw [pl_tail nd (List.pairwise_cons.mp hs).1 w, aP, pl_count, e, j]
  congr 1
  by_cases c : fi i = fi (ρ i)
  · rw [if_pos c, if_pos (by unfold nm; simp only; omega)]; omega
  · rw [if_neg c, if_neg (by unfold nm; simp only; omega)]; omega
