/-! THE REFERENCE counts namings. -/
section AFa
variable {sh : List Sh} {f q p1 : Nat} {Y : Ly} {S : St}
def smR (Y : Ly) (p m : Nat) : Nat := 1 + (List.range m).countP (fun x => yU Y x == yU Y p)
theorem smR_s (p m : Nat) : smR Y p (m + 1) = smR Y p m + (if yU Y m = yU Y p then 1 else 0) := by
  unfold smR
  rw [List.range_succ, List.countP_append, List.countP_singleton]
  simp only [beq_iff_eq]
  omega
theorem smR_rn (ok : yOk Y) {p : Nat} (hp : p < yV Y) : smR Y p p = rnN Y (p + 1) := by
  obtain ⟨_, _, _, ⟨v1, v3⟩, _, asc, _⟩ := ok
  have a1 : 1 < yV Y → yU Y 0 ≤ yU Y 1 := asc 0
  have a2 : 2 < yV Y → yU Y 1 ≤ yU Y 2 := asc 1
  have f0 : ¬ faB Y 0 = true := fun h => absurd (faB_iff.mp h).1 (by omega)
  have z : ∀ p, smR Y p 0 = 1 := fun p => rfl
  have r1 : rnN Y 1 = 1 := by
    rw [rnN, if_neg f0]
  have pp : p = 0 ∨ p = 1 ∨ p = 2 := by omega
  rcases pp with rfl | rfl | rfl
  · rw [r1]; rfl
  · have b1 : faB Y 1 = true ↔ yU Y 1 = yU Y 0 := by
      rw [faB_iff]
      show (0 < 1 ∧ 1 < yV Y ∧ yU Y 1 = yU Y 0) ↔ _
      omega
    rw [smR_s, z, rnN, r1]
    by_cases c : yU Y 0 = yU Y 1
    · rw [if_pos c, if_pos (b1.mpr c.symm)]
    · rw [if_neg c, if_neg (fun h => c (b1.mp h).symm)]
  · have b1 : faB Y 1 = true ↔ yU Y 1 = yU Y 0 := by
      rw [faB_iff]
      show (0 < 1 ∧ 1 < yV Y ∧ yU Y 1 = yU Y 0) ↔ _
      omega
    have b2 : faB Y 2 = true ↔ yU Y 2 = yU Y 1 := by
      rw [faB_iff]
      show (0 < 2 ∧ 2 < yV Y ∧ yU Y 2 = yU Y 1) ↔ _
      omega
    have r2 : rnN Y 2 = if faB Y 1 = true then 2 else 1 := by
      rw [rnN, r1]
    rw [smR_s, smR_s, z, rnN, r2]
    have a1 := a1 (by omega)
    have a2 := a2 (by omega)
    by_cases c1 : yU Y 1 = yU Y 2
    · rw [if_pos c1, if_pos (b2.mpr c1.symm)]
      by_cases c0 : yU Y 0 = yU Y 2
      · rw [if_pos c0, if_pos (b1.mpr (by omega))]
      · rw [if_neg c0, if_neg (fun h => c0 (by have := b1.mp h; omega))]
    · rw [if_neg c1, if_neg (fun h => c1 (b2.mp h).symm), if_neg (by omega)]
theorem like_cnt (ok : yOk Y) {p i : Nat} (hp : p < yV Y) (hi : i < yZ Y p) : (List.range (yS Y p + i)).countP (fun j => yF Y j == yF Y (yS Y p + i)) = (List.range i).countP (fun j => bG (yB Y) (yU Y p) j == bG (yB Y) (yU Y p) i) := by
  have v3 := ok.2.2.2.1
  obtain ⟨b1, b2, b3⟩ := pt_b v3 (i := yS Y p + i) hp (by omega) (by omega)
  rw [List.range_add, List.countP_append, List.countP_map]
  have z : (List.range (yS Y p)).countP (fun j => yF Y j == yF Y (yS Y p + i)) = 0 := by
    rw [List.countP_eq_zero]
    intro j hj
    have hj := List.mem_range.mp hj
    rw [beq_iff_eq]
    intro e
    by_cases c : j < yN Y
    · rw [f_out (Or.inl c)] at e
      have := f_in ok b2 b3
      omega
    · have := ((f_alike ok (by omega) (by omega) b2 b3).mp e).1
      have q := pt_a v3 (i := j) (by omega) (by omega)
      rw [this, b1] at q
      omega
  rw [z, Nat.zero_add]
  apply countP_cg
  intro j hj
  have hj := List.mem_range.mp hj
  obtain ⟨c1, c2, c3⟩ := pt_b v3 (i := yS Y p + j) hp (by omega) (by omega)
  show (yF Y (yS Y p + j) == yF Y (yS Y p + i)) = _
  rw [Bool.eq_iff_iff, beq_iff_eq, beq_iff_eq, f_alike ok c2 c3 b2 b3, k_in c2 c3, k_in b2 b3, c1, b1, show yS Y p + j - yS Y p = j by omega, show yS Y p + i - yS Y p = i by omega]
  exact ⟨fun h => h.2, fun h => ⟨rfl, h⟩⟩
theorem r_nam98 {p i : Nat} (ok : yOk Y) (R : spR sh S Y q p1) (hp : p < yV Y) (hi : i < yZ Y p) (l4 l5 : Int32) (k77 : Int32 → Int32 → Int32 → Int32 → Option Int32) : ∀ (g j nf : Nat), j + g = i → g < nf → F_X12_namingsOf_L98 sh f S 94 p1 142 3 0 k77 nf l4 l5 (I (yU Y p)) (I i) (I ((1 + (List.range j).countP (fun x => bG (yB Y) (yU Y p) x == bG (yB Y) (yU Y p) i) : Nat) : Int)) (I j) = k77 (l4 * I ((1 + (List.range i).countP (fun x => bG (yB Y) (yU Y p) x == bG (yB Y) (yU Y p) i) : Nat) : Int)) l5 (I (yU Y p)) (I ((i + 1 : Nat) : Int)) := by
  obtain ⟨r1, r2, r3, r5, r6, _⟩ := R
  have up := ok.2.2.2.2.1 p hp
  have r4 := ok.1.2.1
  have z4 := z34 ok hp
  have K8 := ok.1.1.1
  have gk : ∀ x, x < yZ Y p → bG (yB Y) (yU Y p) x < bK (yB Y) := fun x hx => ((ok.1.2.2.2 _ up).2.2.2.2.2 x hx).1
  intro g
  induction g with
  | zero =>
    intro j nf h1 h2
    obtain ⟨nf, rfl⟩ : ∃ e, nf = e + 1 := ⟨nf - 1, by omega⟩
    have : j = i := by omega
    subst this
    rw [F_X12_namingsOf_L98, if_pos (by rw [I_leN (by omega) (by omega)]; omega)]
    simp only [bnd, I_suc]
  | succ g ih =>
    intro j nf h1 h2
    obtain ⟨nf, rfl⟩ : ∃ e, nf = e + 1 := ⟨nf - 1, by omega⟩
    have ix : ∀ x : Nat, (4 : Int32) * I (yU Y p : Int) + I (x : Int) = I ((4 * yU Y p + x : Nat) : Int) := by
      intro x
      rw [show (4 : Int32) = I 4 from rfl, I_mul, I_add]; rfl
    have s7 : ∀ x, x < yZ Y p → sA S (q + 7) (4 * yU Y p + x) = I (bG (yB Y) (yU Y p) x) := fun x hx => (r5.2.2.2 _ up).2.2.2 x hx
    have g1 := gk j (by omega)
    have g2 := gk i hi
    have st : (List.range (j + 1)).countP (fun x => bG (yB Y) (yU Y p) x == bG (yB Y) (yU Y p) i) = (List.range j).countP (fun x => bG (yB Y) (yU Y p) x == bG (yB Y) (yU Y p) i) + (if bG (yB Y) (yU Y p) j = bG (yB Y) (yU Y p) i then 1 else 0) := by
      rw [List.range_succ, List.countP_append, List.countP_singleton]
      simp only [beq_iff_eq]
    have ih' := ih (j + 1) nf (by omega) (by omega)
    rw [st] at ih'
    rw [F_X12_namingsOf_L98, if_neg (by rw [I_leN (by omega) (by omega)]; omega), r1, Option.bind_some, if_pos r2, ix j, ix i, I_clN (show 4 * yU Y p + j < _ by omega), if_neg (I_bnd (show 4 * yU Y p + j < 16 by omega) (by omega)), Option.bind_some, if_pos r2, I_clN (show 4 * yU Y p + i < _ by omega), if_neg (I_bnd (show 4 * yU Y p + i < 16 by omega) (by omega)), s7 j (by omega), s7 i hi, ite_eqN (by omega) (by omega)]
    by_cases c : bG (yB Y) (yU Y p) j = bG (yB Y) (yU Y p) i
    · rw [if_pos c]
      rw [if_pos c] at ih'
      simp only [bnd, I_suc]
      exact ih'
    · rw [if_neg c]
      rw [if_neg c] at ih'
      simp only [bnd, I_suc]
      rw [show (0 : Int32) = I 0 from rfl, I_add, Int.add_zero]
      exact ih'
theorem r_nam77 {p : Nat} (hf : 1000 ≤ f) (ok : yOk Y) (R : spR sh S Y q p1) (hp : p < yV Y) (K : Nat) (k6 : Int32 → Int32 → Option Int32) : ∀ (g i nf : Nat), i + g = yZ Y p → g < nf → F_X12_namingsOf_L77 sh f S 94 p1 142 3 0 k6 nf (I ((K * Hn (yF Y) (List.range (yS Y p + i)) : Nat) : Int)) (I p) (I (yU Y p)) (I i) = k6 (I ((K * Hn (yF Y) (List.range (yS Y (p + 1))) : Nat) : Int)) (I ((p + 1 : Nat) : Int)) := by
  have R' := R
  obtain ⟨r1, r2, r3, r5, r6, _⟩ := R'
  have up := ok.2.2.2.2.1 p hp
  have r4 := ok.1.2.1
  have z4 := z34 ok hp
  have s6 : sA S (q + 6) (yU Y p) = I (yZ Y p) := (r5.2.2.2 _ up).1
  intro g
  induction g with
  | zero =>
    intro i nf h1 h2
    obtain ⟨nf, rfl⟩ : ∃ e, nf = e + 1 := ⟨nf - 1, by omega⟩
    have : i = yZ Y p := by omega
    subst this
    rw [F_X12_namingsOf_L77, r1, Option.bind_some, if_pos r2, I_clN (show yU Y p < _ by omega), if_neg (I_bnd (show yU Y p < 4 by omega) (by omega)), s6, if_pos (by rw [I_leN (by omega) (by omega)]; omega)]
    simp only [bnd, I_suc]
    rfl
  | succ g ih =>
    intro i nf h1 h2
    obtain ⟨nf, rfl⟩ : ∃ e, nf = e + 1 := ⟨nf - 1, by omega⟩
    have l98 := r_nam98 (sh := sh) (f := f) ok R hp (show i < yZ Y p by omega) (I ((K * Hn (yF Y) (List.range (yS Y p + i)) : Nat) : Int)) (I p) (F_X12_namingsOf_L77 sh f S 94 p1 142 3 0 k6 nf) i 0 f (by omega) (by omega)
    have l98' : F_X12_namingsOf_L98 sh f S 94 p1 142 3 0 (F_X12_namingsOf_L77 sh f S 94 p1 142 3 0 k6 nf) f (I ((K * Hn (yF Y) (List.range (yS Y p + i)) : Nat) : Int)) (I p) (I (yU Y p)) (I i) 1 0 = _ := l98
    rw [F_X12_namingsOf_L77, r1, Option.bind_some, if_pos r2, I_clN (show yU Y p < _ by omega), if_neg (I_bnd (show yU Y p < 4 by omega) (by omega)), s6, if_neg (by rw [I_leN (by omega) (by omega)]; omega), l98', ← like_cnt ok hp (by omega), I_mul]
    have e : ((K * Hn (yF Y) (List.range (yS Y p + i)) : Nat) : Int) * ((1 + (List.range (yS Y p + i)).countP (fun j => yF Y j == yF Y (yS Y p + i)) : Nat) : Int) = ((K * Hn (yF Y) (List.range (yS Y p + (i + 1))) : Nat) : Int) := by
      rw [show yS Y p + (i + 1) = yS Y p + i + 1 by omega, Hn_succ]
      norm_cast
      rw [Nat.mul_assoc, Nat.mul_comm (Hn _ _)]
    rw [e]
    exact ih (i + 1) nf (by omega) (by omega)
theorem r_nam21 {p : Nat} (hf : 1000 ≤ f) (ok : yOk Y) (R : spR sh S Y q p1) (hp : p < yV Y) (K : Nat) (k6 : Int32 → Int32 → Option Int32) : ∀ (g x nf : Nat), x + g = p → g < nf → F_X12_namingsOf_L21 sh f S 94 p1 142 3 0 k6 nf (I ((K * Hn (yF Y) (List.range (yS Y p)) : Nat) : Int)) (I p) (I (smR Y p x)) (I x) = k6 (I ((K * rnN Y (p + 1) * Hn (yF Y) (List.range (yS Y (p + 1))) : Nat) : Int)) (I ((p + 1 : Nat) : Int)) := by
  have R' := R
  obtain ⟨r1, r2, r3, r5, r6, _⟩ := R'
  have v3 := ok.2.2.2.1
  have r4 := ok.1.2.1
  have up := ok.2.2.2.2.1 p hp
  have z0 : ∀ p : Nat, (0 : Int32) + I (p : Int) = I (p : Int) := by
    intro p
    rw [show (0 : Int32) = I 0 from rfl, I_add, Int.zero_add]
  have z4 := z34 ok hp
  intro g
  induction g with
  | zero =>
    intro x nf h1 h2
    obtain ⟨nf, rfl⟩ : ∃ e, nf = e + 1 := ⟨nf - 1, by omega⟩
    have : x = p := by omega
    subst this
    have l77 := r_nam77 (sh := sh) (f := f) hf ok R hp (K * rnN Y (x + 1)) k6 (yZ Y x) 0 f (by omega) (by omega)
    rw [F_X12_namingsOf_L21, if_pos (by rw [I_leN (by omega) (by omega)]; omega), smR_rn ok hp, I_mul, z0, I_clN (show x < _ by omega)]
    simp only [bnd]
    rw [if_neg (I_bnd (show x < 3 by omega) (by omega)), r6 x hp]
    have e : ((K * Hn (yF Y) (List.range (yS Y x)) : Nat) : Int) * ((rnN Y (x + 1) : Nat) : Int) = ((K * rnN Y (x + 1) * Hn (yF Y) (List.range (yS Y x + 0)) : Nat) : Int) := by
      norm_cast
      rw [Nat.mul_assoc, Nat.mul_assoc, Nat.mul_comm (rnN Y (x + 1))]
      rfl
    rw [e]
    exact l77
  | succ g ih =>
    intro x nf h1 h2
    obtain ⟨nf, rfl⟩ : ∃ e, nf = e + 1 := ⟨nf - 1, by omega⟩
    have ux := ok.2.2.2.2.1 x (by omega)
    have st := smR_s (Y := Y) p x
    have ih' := ih (x + 1) nf (by omega) (by omega)
    rw [F_X12_namingsOf_L21, if_neg (by rw [I_leN (by omega) (by omega)]; omega), z0, z0, I_clN (show x < _ by omega), if_neg (I_bnd (show x < 3 by omega) (by omega)), I_clN (show p < _ by omega), if_neg (I_bnd (show p < 3 by omega) (by omega)), r6 x (by omega), r6 p hp, ite_eqN (by omega) (by omega)]
    by_cases c : yU Y x = yU Y p
    · rw [if_pos c]
      rw [st, if_pos c] at ih'
      simp only [bnd, I_suc]
      exact ih'
    · rw [if_neg c]
      rw [st, if_neg c] at ih'
      simp only [bnd, I_suc]
      rw [show (0 : Int32) = I 0 from rfl, I_add, Int.add_zero]
      exact ih'
theorem r_namings (hf : 1000 ≤ f) (ok : yOk Y) (R : spR sh S Y q p1) : F_X12_namingsOf sh f S 94 p1 142 3 0 = some (I (yNa Y)) := by
  have v3 := ok.2.2.2.1
  have lp : ∀ (g p nf : Nat), p + g = yV Y → g < nf → F_X12_namingsOf_L6 sh f S 94 p1 142 3 0 nf (I ((prN Y p * Hn (yF Y) (List.range (yS Y p)) : Nat) : Int)) (I p) = some (I (yNa Y)) := by
    intro g
    induction g with
    | zero =>
      intro p nf h1 h2
      obtain ⟨nf, rfl⟩ : ∃ e, nf = e + 1 := ⟨nf - 1, by omega⟩
      have : p = yV Y := by omega
      subst this
      rw [F_X12_namingsOf_L6, R.2.2.2.2.2.1, if_pos (by rw [I_leN (by omega) (by omega)]; omega), prN_PP ok]
      rfl
    | succ g ih =>
      intro p nf h1 h2
      obtain ⟨nf, rfl⟩ : ∃ e, nf = e + 1 := ⟨nf - 1, by omega⟩
      have l21 := r_nam21 (sh := sh) (f := f) hf ok R (show p < yV Y by omega) (prN Y p) (F_X12_namingsOf_L6 sh f S 94 p1 142 3 0 nf) p 0 f (by omega) (by omega)
      have l21' : F_X12_namingsOf_L21 sh f S 94 p1 142 3 0 (F_X12_namingsOf_L6 sh f S 94 p1 142 3 0 nf) f (I ((prN Y p * Hn (yF Y) (List.range (yS Y p)) : Nat) : Int)) (I p) 1 0 = _ := l21
      rw [F_X12_namingsOf_L6, R.2.2.2.2.2.1, if_neg (by rw [I_leN (by omega) (by omega)]; omega), l21']
      exact ih (p + 1) nf (by omega) (by omega)
  have := lp (yV Y) 0 f (by omega) (by omega)
  have e : prN Y 0 * Hn (yF Y) (List.range (yS Y 0)) = 1 := by
    rw [show yS Y 0 = yN Y from rfl, Hn_ends _ (Nat.le_refl _)]
    rfl
  rw [e] at this
  exact this
end AFa
