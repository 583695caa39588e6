section A52
variable {sh : List Sh} {S : St} {p : PC} {q : Option Nat} {w : Nat} {X : NS} {f : Nat}
theorem inv0_I {i j : Nat} {x : Int32} (h : inv0 sh S p q w X) (hi : i = 94) (hj : j = 0 ∨ 19 ≤ j) : inv0 sh (uI S i j x) p q w X := by
  subst hi
  obtain ⟨h1, h2, ⟨d1, d2, d3⟩, h4, ⟨t1, t2, t3, t4⟩, ⟨r1, r2, r3, r4⟩, ⟨h7, h8, h9, h10⟩, ⟨e1, e2, e3, e4, e5⟩, h12, h13, ⟨l1, l2⟩⟩ := h
  have g : ∀ c, c ≠ 0 → c < 19 → sI (uI S 94 j x) 94 c = sI S 94 c := fun c c0 c1 => sI_ne _ _ _ (by omega)
  refine ⟨h1, h2, ⟨d1, d2, d3⟩, h4, ⟨t1, t2, (g 9 (by omega) (by omega)).trans t3, t4⟩, ⟨(g 3 (by omega) (by omega)).trans r1, (g 1 (by omega) (by omega)).trans r2, (g 2 (by omega) (by omega)).trans r3, (g 4 (by omega) (by omega)).trans r4⟩, ⟨h7, bkC_sm h8 (fun k a b => uI_o (by omega)), h9, fun z hz => ⟨(h10 z hz).1, bkR_sm (h10 z hz).2 (fun k a b => uI_o ?_)⟩⟩, ⟨e1, e2, (g 17 (by omega) (by omega)).trans e3, e4, e5⟩, h12, h13, ⟨(g 18 (by omega) (by omega)).trans l1, l2⟩⟩
  have := (h4.2.2.2.2 z hz).2.1
  omega
theorem inv0_d {x : Int32} (h : inv0 sh S p q w X) (hx : x ≠ 4 ∧ x ≠ 5) : inv0 sh (uI (uI (uI (uI (uI S 0 16 x) 94 0 0) 94 1 x) 94 2 (-1)) 94 4 (-1)) p q w X := by
  obtain ⟨h1, h2, ⟨d1, d2, d3⟩, h4, h5, ⟨r1, r2, r3, r4⟩, ⟨h7, h8, h9, h10⟩, h11, h12, h13, h14⟩ := h
  refine ⟨h1, h2, ⟨d1, d2, d3⟩, h4, h5, ⟨r1, rfl, (if_neg hx.1).symm, (if_neg hx.2).symm⟩, ⟨h7, bkC_sm h8 (fun k a b => (by repeat' (first | exact Sm.rfl | (refine Sm.uI ?_ (by omega)) | (refine Sm.uA ?_ (by omega)) | (refine Sm.uJ ?_ (by omega)) | (refine Sm.uL ?_ (by omega)) | (refine Sm.uR ?_ (by omega))))), h9, fun z hz => ⟨(h10 z hz).1, bkR_sm (h10 z hz).2 (fun k a b => ?_)⟩⟩, h11, h12, h13, h14⟩
  have := (h4.2.2.2.2 z hz).2.1
  exact (by repeat' (first | exact Sm.rfl | (refine Sm.uI ?_ (by omega)) | (refine Sm.uA ?_ (by omega)) | (refine Sm.uJ ?_ (by omega)) | (refine Sm.uL ?_ (by omega)) | (refine Sm.uR ?_ (by omega))))
theorem st_fault (h : inv0 sh S p q w X) : ∃ v, F_X8_fault sh f S 0 = some v ∧ F_X12_fault sh f S 94 = some (v, uI S 94 0 0) ∧ inv0 sh (uI S 94 0 0) p q w X := by
  have r := h.2.2.2.2.2.1
  refine ⟨_, rfl, ?_, inv0_I h rfl (Or.inl rfl)⟩
  show some (sI S 94 3, uI S 94 0 0) = _
  rw [r.1]
theorem st_trouble (h : inv0 sh S p q w X) : ∃ v, F_X8_trouble sh f S 0 = some v ∧ F_X12_trouble sh f S 94 = some (v, uI S 94 0 0) ∧ inv0 sh (uI S 94 0 0) p q w X := by
  have r := h.2.2.2.2.2.1
  refine ⟨_, rfl, ?_, inv0_I h rfl (Or.inl rfl)⟩
  show some (sI S 94 1, uI S 94 0 0) = _
  rw [r.2.1]
theorem st_where (h : inv0 sh S p q w X) : ∃ v, F_X8_where sh f S 0 = some v ∧ F_X12_where sh f S 94 = some (v, uI S 94 0 0) ∧ inv0 sh (uI S 94 0 0) p q w X := by
  have r := h.2.2.2.2.2.1
  refine ⟨sI S 94 2, ?_, rfl, inv0_I h rfl (Or.inl rfl)⟩
  rw [r.2.2.1]
  unfold F_X8_where
  by_cases c : sI S 0 16 = 4
  · rw [if_pos c, if_pos c]
  · rw [if_neg c, if_neg c]
theorem st_pole (h : inv0 sh S p q w X) : ∃ v, F_X8_pole sh f S 0 = some v ∧ F_X12_pole sh f S 94 = some (v, uI S 94 0 0) ∧ inv0 sh (uI S 94 0 0) p q w X := by
  have r := h.2.2.2.2.2.1
  refine ⟨sI S 94 4, ?_, rfl, inv0_I h rfl (Or.inl rfl)⟩
  rw [r.2.2.2]
  unfold F_X8_pole
  by_cases c : sI S 0 16 = 5
  · rw [if_pos c, if_pos c]
  · rw [if_neg c, if_neg c]
theorem pc7 (h : inv0 sh S p q w X) : ckX7 sh p.2.2.2.2.1 = true := sh7 h.1 (by have := h.2.2.1.2.2; omega)
theorem pc0 (h : inv0 sh S p q w X) : ckX0 sh p.1 = true := sh0 h.1 (by have := h.2.2.1.1; omega)
theorem st_worth (h : inv0 sh S p q w X) (x : Int32) : ∃ v, F_X8_worth sh f S 0 x = some v ∧ F_X12_worth sh f S 94 x = some (v, uI S 94 0 0) ∧ inv0 sh (uI S 94 0 0) p q w X := by
  have a := h.2.2.2.2.2.2.2.2.2.1
  have k7 := pc7 h
  have hp := h.2.1.2.2.2.2.1
  refine ⟨if x = 0 then sJ S 94 53 else sJ S 94 54, ?_, ?_, inv0_I h rfl (Or.inl rfl)⟩
  · unfold F_X8_worth
    rcases a with ⟨a1, a2, a3, _⟩ | ⟨a1, a2, a3, _⟩
    · rw [if_pos a1, a2, a3]
      by_cases c : x = 0
      · rw [if_pos c]
      · rw [if_neg c]
    · rw [if_neg (by rw [a1]; decide), hp]
      by_cases c : x = 0
      · rw [if_pos c, if_pos c, ← a2]
        show (if ckX7 sh p.2.2.2.2.1 = true then _ else _) = _
        rw [if_pos k7]
      · rw [if_neg c, if_neg c, ← a3]
        show (if ckX7 sh p.2.2.2.2.1 = true then _ else _) = _
        rw [if_pos k7]
  · show (if x = 0 then some (sJ S 94 53, uI S 94 0 0) else some (sJ S 94 54, uI S 94 0 0)) = _
    by_cases c : x = 0
    · rw [if_pos c, if_pos c]
    · rw [if_neg c, if_neg c]
theorem cl_lt {x : Int32} {n : Nat} (h0 : ¬ x < 0) (h : x < I n) (hn : n < 2147483648) : x.toNatClampNeg < n := by
  obtain ⟨z, rfl, h1⟩ := I_ex x
  rw [show (0 : Int32) = I 0 from rfl, I_lt h1 (by omega)] at h0
  rw [I_lt h1 (by omega)] at h
  rw [I_cl h1]
  omega
theorem st_rest (h : inv0 sh S p q w X) (x : Int32) : ∃ v, F_X8_rest sh f S 0 x = some v ∧ F_X12_rest sh f S 94 x = some (v, uI S 94 0 0) ∧ inv0 sh (uI S 94 0 0) p q w X := by
  have a := h.2.2.2.2.2.2.2.2.2.1
  have k7 := pc7 h
  have hp := h.2.1.2.2.2.2.1
  by_cases c1 : x < 0
  · refine ⟨-1, ?_, ?_, inv0_I h rfl (Or.inl rfl)⟩
    · rcases a with ⟨a1, _⟩ | ⟨a1, _⟩
      · simp only [F_X8_rest, if_pos a1]
      · have a2 : ¬ sI S 0 15 = 0 := by rw [a1]; decide
        simp only [F_X8_rest, if_neg a2, hp, Option.bind_some, k7, if_true, F_X7_restBy, if_pos c1]
    · simp only [F_X12_rest, bnd, F_X12_in, if_pos c1, Option.bind_some, if_true]
  · by_cases c2 : 4 ≤ x
    · refine ⟨-1, ?_, ?_, inv0_I h rfl (Or.inl rfl)⟩
      · rcases a with ⟨a1, _⟩ | ⟨a1, _⟩
        · simp only [F_X8_rest, if_pos a1]
        · have a2 : ¬ sI S 0 15 = 0 := by rw [a1]; decide
          simp only [F_X8_rest, if_neg a2, hp, Option.bind_some, k7, if_true, F_X7_restBy, if_neg c1, if_pos c2]
      · have c3 : 3 < x := by
          obtain ⟨z, rfl, h1⟩ := I_ex x
          rw [show (4 : Int32) = I 4 from rfl, I_le (by omega) h1] at c2
          rw [show (3 : Int32) = I 3 from rfl, I_lt (by omega) h1]
          omega
        simp only [F_X12_rest, bnd, F_X12_in, if_neg c1, if_pos c3, Option.bind_some, if_true]
    · have c4 : x < 4 := by rw [I_nle] at c2; exact c2
      have c5 := cl_lt (n := 4) c1 c4 (by omega)
      have c3 : ¬ 3 < x := by
        obtain ⟨z, rfl, h1⟩ := I_ex x
        rw [show (4 : Int32) = I 4 from rfl, I_lt h1 (by omega)] at c4
        rw [show (3 : Int32) = I 3 from rfl, I_lt (by omega) h1]
        omega
      have c6 : ¬ (x < 0 ∨ 4 ≤ x.toNatClampNeg) := by
        rintro (c | c)
        · exact c1 c
        · omega
      refine ⟨sA S 156 x.toNatClampNeg, ?_, ?_, inv0_I h rfl (Or.inl rfl)⟩
      · rcases a with ⟨a1, _, _, a4⟩ | ⟨a1, _, _, a4⟩
        · simp only [F_X8_rest, if_pos a1, a4 _ c5]
        · have a2 : ¬ sI S 0 15 = 0 := by rw [a1]; decide
          simp only [F_X8_rest, if_neg a2, hp, Option.bind_some, k7, if_true, F_X7_restBy, if_neg c1, if_neg c2, if_neg c6, a4 _ c5]
      · have e10 : ¬ (1 : Int32) = 0 := by decide
        simp only [F_X12_rest, bnd, F_X12_in, if_neg c1, if_neg c3, Option.bind_some, if_neg e10, if_neg c6]
        rfl
end A52
