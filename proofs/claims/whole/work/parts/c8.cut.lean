/-! THE CUT that is asked for is one of both. -/
section C8a
variable {Y : Ly} {ρ : Nat → Nat}
theorem wlX_n (c : List Nat) : ∀ n, n ≤ c.length → wlX c (-1) n = c.take n
  | 0, _ => by rw [wlX, List.take_zero]
  | n + 1, h => by
    have e : c[n]? = some (c.getD n 0) := by
      rw [List.getD_eq_getElem?_getD, List.getElem?_eq_getElem (by omega)]; rfl
    rw [wlX, if_neg (by omega), wlX_n c n (by omega), List.take_add_one, e]
    rfl
theorem wlX_w (c : List Nat) (nd : c.Nodup) {m : Nat} (hm : m < c.length) : ∀ n, n ≤ c.length → wlX c (m : Int) n = (c.take n).filter (fun x => decide (x ≠ c.getD m 0))
  | 0, _ => by rw [wlX, List.take_zero]; rfl
  | n + 1, h => by
    have e : c[n]? = some (c.getD n 0) := by
      rw [List.getD_eq_getElem?_getD, List.getElem?_eq_getElem (by omega)]; rfl
    have em : c[m]? = some (c.getD m 0) := by
      rw [List.getD_eq_getElem?_getD, List.getElem?_eq_getElem (by omega)]; rfl
    rw [wlX, wlX_w c nd hm n (by omega), List.take_add_one, e, List.filter_append]
    congr 1
    by_cases z : (n : Int) = m
    · have z : n = m := by omega
      subst z
      rw [if_pos rfl]
      simp
    · have ne : c.getD n 0 ≠ c.getD m 0 := fun q => by
        have := (List.getElem?_inj (by omega : n < c.length) nd).mp (show c[n]? = c[m]? by rw [e, em, q])
        omega
      rw [if_neg z]
      simp only [Option.toList, List.filter_cons, List.filter_nil, decide_eq_true ne, if_true]
theorem fcR_hit (P : Nat → Bool) (c : List Nat) {m : Nat} (hP : P (c.getD m 0) = true) : ∀ d j, j ≤ m → m < j + d → (∀ x, j ≤ x → x < m → ¬ P (c.getD x 0) = true) → fcR P c d j = m
  | 0, j, h1, h2, _ => by omega
  | d + 1, j, h1, h2, h => by
    rw [fcR]
    by_cases z : j = m
    · rw [z, if_pos hP]
    · rw [if_neg (h j (Nat.le_refl _) (by omega))]
      exact fcR_hit P c hP d (j + 1) (by omega) (by omega) (fun x a b => h x (by omega) b)
theorem fcR_no (P : Nat → Bool) (c : List Nat) : ∀ d j, (∀ x, j ≤ x → x < j + d → ¬ P (c.getD x 0) = true) → fcR P c d j = -1
  | 0, j, _ => rfl
  | d + 1, j, h => by
    rw [fcR, if_neg (h j (Nat.le_refl _) (by omega))]
    exact fcR_no P c d (j + 1) (fun x a b => h x (by omega) (by omega))
theorem fcF_no {sd kd : Nat} : ∀ d m, (∀ x, m ≤ x → x < m + d → cutB Y ρ x = true → sdN Y ρ x = sd → onN Y ρ x ≠ kd) → fcF Y ρ sd kd d m = -1
  | 0, _, _ => rfl
  | d + 1, m, h => by
    rw [fcF]
    by_cases c : cutB Y ρ m = true ∧ sdN Y ρ m = sd
    · rw [if_pos c, if_neg (h m (Nat.le_refl _) (by omega) c.1 c.2)]
    · rw [if_neg c]
      exact fcF_no d (m + 1) (fun x a b => h x (by omega) (by omega))
theorem fcF_hit {sd kd i : Nat} (ci : cutB Y ρ i = true ∧ sdN Y ρ i = sd) (oi : onN Y ρ i = kd) : ∀ d m, m ≤ i → i < m + d → (∀ x, m ≤ x → x < i → ¬ (cutB Y ρ x = true ∧ sdN Y ρ x = sd)) → fcF Y ρ sd kd d m = i
  | 0, m, h1, h2, _ => by omega
  | d + 1, m, h1, h2, h => by
    rw [fcF]
    by_cases z : m = i
    · rw [z, if_pos ci, if_pos oi]
    · rw [if_neg (h m (Nat.le_refl _) (by omega))]
      exact fcF_hit ci oi d (m + 1) (by omega) (by omega) (fun x a b => h x (by omega) b)
theorem cl_mem {x : Nat} : x ∈ cl Y ρ (yL Y) ↔ x < yL Y ∧ cutB Y ρ x = true := by
  unfold cl
  rw [List.mem_filter, List.mem_range]
theorem cl_nd : (cl Y ρ (yL Y)).Nodup := by
  unfold cl
  exact List.nodup_range.sublist List.filter_sublist
/-- the cut of the class and the one of the reference, in a tree -/
theorem fc_eq (ok : yOk Y) (w : yRw Y ρ) (c : cn Y ρ) (tr : ((yL Y / 2 : Nat) : Int) - (yN Y : Int) = (yV Y : Int) - 1) (sd kd : Nat) : (fcR (ctP Y ρ sd kd) (cl Y ρ (yL Y)) (cl Y ρ (yL Y)).length 0 = -1 ∧ fcF Y ρ sd kd (yL Y) 0 = -1) ∨ ∃ m, m < (cl Y ρ (yL Y)).length ∧ fcR (ctP Y ρ sd kd) (cl Y ρ (yL Y)) (cl Y ρ (yL Y)).length 0 = m ∧ fcF Y ρ sd kd (yL Y) 0 = ((cl Y ρ (yL Y)).getD m 0 : Nat) := by
  have gd : ∀ x, x < (cl Y ρ (yL Y)).length → (cl Y ρ (yL Y))[x]? = some ((cl Y ρ (yL Y)).getD x 0) := fun x hx => by
    rw [List.getD_eq_getElem?_getD, List.getElem?_eq_getElem hx]; rfl
  have gm : ∀ x, x < (cl Y ρ (yL Y)).length → (cl Y ρ (yL Y)).getD x 0 < yL Y ∧ cutB Y ρ ((cl Y ρ (yL Y)).getD x 0) = true := fun x hx => cl_mem.mp (List.mem_of_getElem? (gd x hx))
  have cP : ∀ x, ctP Y ρ sd kd x = true ↔ sdN Y ρ x = sd ∧ onN Y ρ x = kd := fun x => by
    unfold ctP
    rw [Bool.and_eq_true, beq_iff_eq, beq_iff_eq]
  by_cases E : ∃ i, i < yL Y ∧ cutB Y ρ i = true ∧ sdN Y ρ i = sd ∧ onN Y ρ i = kd
  · right
    obtain ⟨i, i1, i2, i3, i4⟩ := E
    obtain ⟨m, hm⟩ := List.getElem?_of_mem (cl_mem.mpr ⟨i1, i2⟩ : i ∈ cl Y ρ (yL Y))
    have ml := (List.getElem?_eq_some_iff.mp hm).1
    have mi : (cl Y ρ (yL Y)).getD m 0 = i := by rw [List.getD_eq_getElem?_getD, hm]; rfl
    refine ⟨m, ml, ?_, ?_⟩
    · refine fcR_hit _ _ (by rw [mi]; exact (cP i).mpr ⟨i3, i4⟩) _ 0 (Nat.zero_le _) (by omega) (fun x _ hx q => ?_)
      have g := gm x (by omega)
      have e := sd_inj ok w c tr g.1 i1 g.2 i2 (by rw [((cP _).mp q).1, i3])
      have := (List.getElem?_inj (by omega : x < (cl Y ρ (yL Y)).length) cl_nd).mp (show (cl Y ρ (yL Y))[x]? = (cl Y ρ (yL Y))[m]? by rw [gd x (by omega), hm, e])
      omega
    · rw [mi]
      refine fcF_hit ⟨i2, i3⟩ i4 _ 0 (Nat.zero_le _) (by omega) (fun x _ hx q => ?_)
      have := sd_inj ok w c tr (by omega) i1 q.1 i2 (by rw [q.2, i3])
      omega
  · left
    refine ⟨fcR_no _ _ _ 0 (fun x _ hx q => E ⟨_, (gm x (by omega)).1, (gm x (by omega)).2, (cP _).mp q⟩), fcF_no _ 0 (fun x _ hx a b o => E ⟨x, by omega, a, b, o⟩)⟩
end C8a
