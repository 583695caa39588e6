section K53
variable {sh : List Sh} {S : St} {p : PC} {q : Option Nat} {w : Nat} {X : NS} {f : Nat}
/-- what kind(x, y) answers -/
def spKind (B : Bk) (x y : Int32) : Int32 := if x < 0 ∨ I (bK B) ≤ x then -2147483648 else if y = 0 then I (bF B x.toNatClampNeg) else if y = 1 then I (bH B x.toNatClampNeg) else if y = 2 then I (bM B x.toNatClampNeg) else if y = 3 then I (bS B x.toNatClampNeg) else -2147483648
theorem c_kind {b : Nat} {B : Bk} (h : bkC S b B) (ok : bkOk B) (x y : Int32) : F_X0_ofKind sh f S b x y = some (spKind B x y) := by
  obtain ⟨h1, h2, h3, h4⟩ := h
  have k8 := ok.1.1
  unfold F_X0_ofKind F_X0_hasKind spKind
  by_cases c1 : x < 0
  · simp only [if_pos c1, Option.bind_some, if_true, if_pos (Or.inl c1 : x < 0 ∨ I (bK B) ≤ x)]
  · by_cases c2 : I (bK B) ≤ x
    · simp only [if_neg c1, h1, if_pos c2, Option.bind_some, if_true, if_pos (Or.inr c2 : x < 0 ∨ I (bK B) ≤ x)]
    · have c3 : x < I (bK B) := by rw [I_nle] at c2; exact c2
      have c4 := cl_lt c1 c3 (by omega)
      have c5 : ¬ (x < 0 ∨ 8 ≤ x.toNatClampNeg) := by
        rintro (c | c)
        · exact c1 c
        · omega
      have c6 : ¬ (x < 0 ∨ I (bK B) ≤ x) := by
        rintro (c | c)
        · exact c1 c
        · exact c2 c
      obtain ⟨a1, a2, a3, a4⟩ := h3 _ c4
      simp only [if_neg c1, h1, if_neg c2, Option.bind_some, if_neg i10, if_neg c5, if_neg c6, a1, a2, a3, a4]
      repeat' (first | rfl | split)
theorem r_kind (h : inv0 sh S p q w X) (x y : Int32) : F_X12_kind sh f S 94 x y = some (spKind X.2.1 x y, uI S 94 0 0) := by
  obtain ⟨ok, _, b3, b4⟩ := h.2.2.2.2.2.2.1
  obtain ⟨hq, _, _, _, hz⟩ := h.2.2.2.1
  have k8 := ok.1.1
  unfold F_X12_kind F_X12_isKind spKind
  cases hq' : q with
  | none =>
    have hn : sR (uI S 94 0 0) 94 5 = none := hq.trans hq'
    have c : x < 0 ∨ I (bK X.2.1) ≤ x := by
      by_cases c1 : x < 0
      · exact Or.inl c1
      · right
        rw [b3 hq']
        rw [I_nlt] at c1
        exact c1
    simp only [bnd, hn, oN, Option.bind_some, if_true, if_pos c]
  | some z =>
    have hn : sR (uI S 94 0 0) 94 5 = some z := hq.trans hq'
    obtain ⟨z1, z2, z3⟩ := hz z hq'
    have hr := bkR_sm (S' := uI S 94 0 0) (b4 z hq').2 (fun k a b => uI_o (by omega))
    obtain ⟨h1, h2, h3, h4⟩ := hr
    by_cases c1 : x < 0
    · simp only [bnd, hn, oN, if_pos c1, Option.bind_some, if_true, if_pos (Or.inl c1 : x < 0 ∨ I (bK X.2.1) ≤ x)]
    · by_cases c2 : I (bK X.2.1) ≤ x
      · simp only [bnd, hn, oN, if_neg c1, Option.bind_some, if_pos z1, h1, if_pos c2, if_true, if_pos (Or.inr c2 : x < 0 ∨ I (bK X.2.1) ≤ x)]
      · have c3 : x < I (bK X.2.1) := by rw [I_nle] at c2; exact c2
        have c4 := cl_lt c1 c3 (by omega)
        have c5 : ¬ (x < 0 ∨ 8 ≤ x.toNatClampNeg) := by
          rintro (c | c)
          · exact c1 c
          · omega
        have c6 : ¬ (x < 0 ∨ I (bK X.2.1) ≤ x) := by
          rintro (c | c)
          · exact c1 c
          · exact c2 c
        obtain ⟨a1, a2, a3, a4, _⟩ := h3 _ c4
        simp only [bnd, hn, oN, if_neg c1, Option.bind_some, if_pos z1, h1, if_neg c2, if_neg i10, if_neg c5, if_neg c6, a1, a2, a3, a4]
        repeat' (first | rfl | split)
theorem st_kind (h : inv0 sh S p q w X) (x y : Int32) : ∃ v, F_X8_kind sh f S 0 x y = some v ∧ F_X12_kind sh f S 94 x y = some (v, uI S 94 0 0) ∧ inv0 sh (uI S 94 0 0) p q w X := by
  refine ⟨spKind X.2.1 x y, ?_, r_kind h x y, inv0_I h rfl (Or.inl rfl)⟩
  simp only [F_X8_kind, h.2.1.1, Option.bind_some, if_pos (pc0 h), c_kind h.2.2.2.2.2.2.1.2.1 h.2.2.2.2.2.2.1.1]
/-- what rule(x, y) answers -/
def spRule (B : Bk) (x y : Int32) : Int32 := if x < 0 ∨ I (bR B) ≤ x then -2147483648 else if y = 0 then I (bZ B x.toNatClampNeg) else if y = 1 then I (bW B x.toNatClampNeg) else if y = 2 then I (bL B x.toNatClampNeg) else if y < 0 ∨ 6 < y then -2147483648 else if I (bZ B x.toNatClampNeg) ≤ y - 3 then -2 else I (bG B x.toNatClampNeg (y - 3).toNatClampNeg)
theorem rl_ix {x y : Int32} {n : Nat} {s : Nat} (c1 : ¬ x < 0) (c3 : x.toNatClampNeg < n) (hn : n ≤ 4) (y3 : 3 ≤ y) (ys : ¬ I s ≤ y - 3) (hs : s ≤ 4) : ¬ (x * 4 + y - 3 < 0 ∨ 16 ≤ (x * 4 + y - 3).toNatClampNeg) ∧ (x * 4 + y - 3).toNatClampNeg = 4 * x.toNatClampNeg + (y - 3).toNatClampNeg ∧ (y - 3).toNatClampNeg < s ∧ x * 4 + y - 3 = 4 * x + y - 3 := by
  obtain ⟨a, rfl, ha⟩ := I_ex x
  obtain ⟨b, rfl, hb⟩ := I_ex y
  rw [show (0 : Int32) = I 0 from rfl, I_lt ha (by omega)] at c1
  rw [I_cl ha] at c3
  rw [show (3 : Int32) = I 3 from rfl, I_le (by omega) hb] at y3
  rw [show (3 : Int32) = I 3 from rfl, I_sub, I_le (by omega) (by omega)] at ys
  rw [show (0 : Int32) = I 0 from rfl, show (3 : Int32) = I 3 from rfl, show (4 : Int32) = I 4 from rfl, I_mul, I_mul, I_add, I_add, I_sub, I_sub, I_sub, I_lt (by omega) (by omega), I_cl (by omega), I_cl (by omega), I_cl (by omega)]
  refine ⟨by omega, by omega, by omega, ?_⟩
  congr 1
  omega
theorem c_rule {b : Nat} {B : Bk} (h : bkC S b B) (ok : bkOk B) (x y : Int32) : F_X0_ofRule sh f S b x y = some (spRule B x y) := by
  obtain ⟨h1, h2, h3, h4⟩ := h
  have k4 := ok.2.1
  unfold F_X0_ofRule spRule
  by_cases c1 : x < 0
  · simp only [if_pos c1, if_pos (Or.inl c1 : x < 0 ∨ I (bR B) ≤ x)]
  · by_cases c2 : x < I (bR B)
    · have c3 : ¬ (x < 0 ∨ I (bR B) ≤ x) := by
        rintro (c | c)
        · exact c1 c
        · rw [← I_nlt] at c; exact c c2
      have c4 := cl_lt c1 c2 (by omega)
      have c5 : ¬ (x < 0 ∨ 4 ≤ x.toNatClampNeg) := by
        rintro (c | c)
        · exact c1 c
        · omega
      obtain ⟨a1, a2, a3, a4⟩ := h4 _ c4
      have zz := (ok.2.2.2 _ c4).2.1
      have key : ∀ yy : Int32, y = yy → ¬ (yy < 0 ∨ 6 < yy) → 3 ≤ yy → (if I (bZ B x.toNatClampNeg) ≤ y - 3 then some (-2) else if x * 4 + y - 3 < 0 ∨ 16 ≤ (x * 4 + y - 3).toNatClampNeg then none else some (sA S (b + 9) (x * 4 + y - 3).toNatClampNeg)) = some (if I (bZ B x.toNatClampNeg) ≤ y - 3 then -2 else I (bG B x.toNatClampNeg (y - 3).toNatClampNeg)) := by
        intro yy hy _ y3
        by_cases d : I (bZ B x.toNatClampNeg) ≤ y - 3
        · rw [if_pos d, if_pos d]
        · obtain ⟨g1, g2, g3, _⟩ := rl_ix c1 c4 k4 (hy ▸ y3) d zz
          rw [if_neg d, if_neg d, if_neg g1, g2, a4 _ g3]
      simp only [if_neg c1, h2, if_pos c2, if_neg c3, if_neg c5, a1, a2, a3]
      by_cases y0 : y = 0
      · rw [if_pos y0, if_pos y0]
      · rw [if_neg y0, if_neg y0]
        by_cases y1 : y = 1
        · rw [if_pos y1, if_pos y1]
        · rw [if_neg y1, if_neg y1]
          by_cases y2 : y = 2
          · rw [if_pos y2, if_pos y2]
          · rw [if_neg y2, if_neg y2]
            by_cases y3 : y = 3
            · have yn : ¬ (y < 0 ∨ 6 < y) := by rw [y3]; decide
              rw [if_pos y3, if_neg yn, key 3 y3 (by decide) (by decide)]
            · rw [if_neg y3]
              by_cases y4 : y = 4
              · have yn : ¬ (y < 0 ∨ 6 < y) := by rw [y4]; decide
                rw [if_pos y4, if_neg yn, key 4 y4 (by decide) (by decide)]
              · rw [if_neg y4]
                by_cases y5 : y = 5
                · have yn : ¬ (y < 0 ∨ 6 < y) := by rw [y5]; decide
                  rw [if_pos y5, if_neg yn, key 5 y5 (by decide) (by decide)]
                · rw [if_neg y5]
                  by_cases y6 : y = 6
                  · have yn : ¬ (y < 0 ∨ 6 < y) := by rw [y6]; decide
                    rw [if_pos y6, if_neg yn, key 6 y6 (by decide) (by decide)]
                  · rw [if_neg y6, if_pos]
                    obtain ⟨v, rfl, hv⟩ := I_ex y
                    rw [show (0 : Int32) = I 0 from rfl, I_eq hv (by omega)] at y0
                    rw [show (1 : Int32) = I 1 from rfl, I_eq hv (by omega)] at y1
                    rw [show (2 : Int32) = I 2 from rfl, I_eq hv (by omega)] at y2
                    rw [show (3 : Int32) = I 3 from rfl, I_eq hv (by omega)] at y3
                    rw [show (4 : Int32) = I 4 from rfl, I_eq hv (by omega)] at y4
                    rw [show (5 : Int32) = I 5 from rfl, I_eq hv (by omega)] at y5
                    rw [show (6 : Int32) = I 6 from rfl, I_eq hv (by omega)] at y6
                    rw [show (0 : Int32) = I 0 from rfl, show (6 : Int32) = I 6 from rfl, I_lt hv (by omega), I_lt (by omega) hv]
                    omega
    · have c3 : x < 0 ∨ I (bR B) ≤ x := Or.inr (by rw [I_nlt] at c2; exact c2)
      simp only [if_neg c1, h2, if_neg c2, if_pos c3]
theorem r_rule (h : inv0 sh S p q w X) (x y : Int32) : F_X12_rule sh f S 94 x y = some (spRule X.2.1 x y, uI S 94 0 0) := by
  obtain ⟨ok, _, b3, b4⟩ := h.2.2.2.2.2.2.1
  obtain ⟨hq, _, _, _, hz⟩ := h.2.2.2.1
  have k4 := ok.2.1
  unfold F_X12_rule spRule
  cases hq' : q with
  | none =>
    have hn : sR (uI S 94 0 0) 94 5 = none := hq.trans hq'
    have c : x < 0 ∨ I (bR X.2.1) ≤ x := by
      by_cases c1 : x < 0
      · exact Or.inl c1
      · right
        rw [ok.2.2.1 (b3 hq')]
        rw [I_nlt] at c1
        exact c1
    simp only [bnd, hn, oN, if_pos c]
  | some z =>
    have hn : sR (uI S 94 0 0) 94 5 = some z := hq.trans hq'
    obtain ⟨z1, z2, z3⟩ := hz z hq'
    obtain ⟨h1, h2, h3, h4⟩ := bkR_sm (S' := uI S 94 0 0) (b4 z hq').2 (fun k a b => uI_o (by omega))
    by_cases c1 : x < 0
    · simp only [bnd, hn, oN, if_pos c1, if_pos (Or.inl c1 : x < 0 ∨ I (bR X.2.1) ≤ x)]
    · by_cases c2 : I (bR X.2.1) ≤ x
      · simp only [bnd, hn, oN, if_neg c1, Option.bind_some, if_pos z1, h2, if_pos c2, if_pos (Or.inr c2 : x < 0 ∨ I (bR X.2.1) ≤ x)]
      · have c3 : x < I (bR X.2.1) := by rw [I_nle] at c2; exact c2
        have c4 := cl_lt c1 c3 (by omega)
        have c5 : ¬ (x < 0 ∨ 4 ≤ x.toNatClampNeg) := by
          rintro (c | c)
          · exact c1 c
          · omega
        have c6 : ¬ (x < 0 ∨ I (bR X.2.1) ≤ x) := by
          rintro (c | c)
          · exact c1 c
          · exact c2 c
        obtain ⟨a1, a2, a3, a4⟩ := h4 _ c4
        have zz := (ok.2.2.2 _ c4).2.1
        simp only [bnd, hn, oN, if_neg c1, Option.bind_some, if_pos z1, h2, if_neg c2, if_neg c6, F_X12_in, if_neg c5, a1, a2, a3]
        by_cases y0 : y < 0
        · have e0 : ¬ y = 0 := by rintro rfl; exact absurd y0 (by decide)
          have e1 : ¬ y = 1 := by rintro rfl; exact absurd y0 (by decide)
          have e2 : ¬ y = 2 := by rintro rfl; exact absurd y0 (by decide)
          simp only [if_pos y0, Option.bind_some, if_true, if_neg e0, if_neg e1, if_neg e2, if_pos (Or.inl y0 : y < 0 ∨ 6 < y)]
        · by_cases y6 : 6 < y
          · have e0 : ¬ y = 0 := by rintro rfl; exact absurd y6 (by decide)
            have e1 : ¬ y = 1 := by rintro rfl; exact absurd y6 (by decide)
            have e2 : ¬ y = 2 := by rintro rfl; exact absurd y6 (by decide)
            simp only [if_neg y0, if_pos y6, Option.bind_some, if_true, if_neg e0, if_neg e1, if_neg e2, if_pos (Or.inr y6 : y < 0 ∨ 6 < y)]
          · have yn : ¬ (y < 0 ∨ 6 < y) := by
              rintro (c | c)
              · exact y0 c
              · exact y6 c
            simp only [if_neg y0, if_neg y6, Option.bind_some, if_neg i10, if_neg yn]
            by_cases e0 : y = 0
            · simp only [if_pos e0]
            · by_cases e1 : y = 1
              · simp only [if_neg e0, if_pos e1]
              · by_cases e2 : y = 2
                · simp only [if_neg e0, if_neg e1, if_pos e2]
                · simp only [if_neg e0, if_neg e1, if_neg e2]
                  by_cases d : I (bZ X.2.1 x.toNatClampNeg) ≤ y - 3
                  · simp only [if_pos d]
                  · have y3 : 3 ≤ y := by
                      obtain ⟨v, rfl, hv⟩ := I_ex y
                      rw [show (0 : Int32) = I 0 from rfl, I_eq hv (by omega)] at e0
                      rw [show (1 : Int32) = I 1 from rfl, I_eq hv (by omega)] at e1
                      rw [show (2 : Int32) = I 2 from rfl, I_eq hv (by omega)] at e2
                      rw [show (0 : Int32) = I 0 from rfl, I_lt hv (by omega)] at y0
                      rw [show (3 : Int32) = I 3 from rfl, I_le (by omega) hv]
                      omega
                    obtain ⟨g1, g2, g3, g4⟩ := rl_ix c1 c4 k4 y3 d zz
                    rw [← g4]
                    simp only [if_neg d, if_neg g1]
                    rw [g2, a4 _ g3]
theorem st_rule (h : inv0 sh S p q w X) (x y : Int32) : ∃ v, F_X8_rule sh f S 0 x y = some v ∧ F_X12_rule sh f S 94 x y = some (v, uI S 94 0 0) ∧ inv0 sh (uI S 94 0 0) p q w X := by
  refine ⟨spRule X.2.1 x y, ?_, r_rule h x y, inv0_I h rfl (Or.inl rfl)⟩
  simp only [F_X8_rule, h.2.1.1, Option.bind_some, if_pos (pc0 h), c_rule h.2.2.2.2.2.2.1.2.1 h.2.2.2.2.2.2.1.1]
end K53
