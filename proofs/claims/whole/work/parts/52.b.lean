section B52
variable {sh : List Sh} {S : St} {p : PC} {q : Option Nat} {w : Nat} {X : NS} {f : Nat}
theorem i10 : ¬ (1 : Int32) = 0 := by decide
theorem i20 : ¬ (2 : Int32) = 0 := by decide
theorem n01 : ¬ ¬ ((0 : Int32) = 0 ∨ (0 : Int32) = 1) := by decide
theorem n11 : ¬ ¬ ((1 : Int32) = 0 ∨ (1 : Int32) = 1) := by decide
/-- a refused call of both: the answer 0, the refusal x -/
def rfS (S : St) (x : Int32) : St := uI (uI (uI (uI (uI S 0 16 x) 94 0 0) 94 1 x) 94 2 (-1)) 94 4 (-1)
theorem rfS_sm {S : St} {x : Int32} {k : Nat} (h0 : k ≠ 0) (h1 : k ≠ 94) : Sm S (rfS S x) k := (by repeat' (first | exact Sm.rfl | (refine Sm.uI ?_ (by omega)) | (refine Sm.uA ?_ (by omega)) | (refine Sm.uJ ?_ (by omega)) | (refine Sm.uL ?_ (by omega)) | (refine Sm.uR ?_ (by omega))))
/-- a number told at an end -/
def nmX (X : NS) (i : Nat) (v : Int) : NS := (X.1, X.2.1, X.2.2.1, X.2.2.2.1, up1 X.2.2.2.2.1 i v, X.2.2.2.2.2)
theorem inv0_nm {i : Nat} {v : Int} (h : inv0 sh S p q w X) (hv : -999 ≤ v ∧ v ≤ 999) : inv0 sh (uA (uA S 46 i (I v)) 109 i (I v)) p q w (nmX X i v) := by
  obtain ⟨h1, h2, ⟨d1, d2, d3⟩, h4, h5, h6, ⟨h7, h8, h9, h10⟩, ⟨e1, e2, e3, e4, e5⟩, h12, h13, h14⟩ := h
  refine ⟨h1, h2, ⟨d1, d2, d3⟩, h4, h5, h6, ⟨h7, bkC_sm h8 (fun k a b => (by repeat' (first | exact Sm.rfl | (refine Sm.uI ?_ (by omega)) | (refine Sm.uA ?_ (by omega)) | (refine Sm.uJ ?_ (by omega)) | (refine Sm.uL ?_ (by omega)) | (refine Sm.uR ?_ (by omega))))), h9, fun z hz => ⟨(h10 z hz).1, bkR_sm (h10 z hz).2 (fun k a b => ?_)⟩⟩, ⟨e1, e2, e3, e4, fun k hk => ?_⟩, h12, h13, h14⟩
  · have := (h4.2.2.2.2 z hz).2.1
    exact (by repeat' (first | exact Sm.rfl | (refine Sm.uI ?_ (by omega)) | (refine Sm.uA ?_ (by omega)) | (refine Sm.uJ ?_ (by omega)) | (refine Sm.uL ?_ (by omega)) | (refine Sm.uR ?_ (by omega))))
  · obtain ⟨a1, a2, a3, a4, a5, a6, a7⟩ := e5 k hk
    have b6 : sA (uA (uA S 46 i (I v)) 109 i (I v)) 46 k = up1 (sA S 46) i (I v) k := rfl
    have b7 : sA (uA (uA S 46 i (I v)) 109 i (I v)) 109 k = up1 (sA S 109) i (I v) k := rfl
    show X.2.2.2.1 k < _ ∧ -999 ≤ up1 X.2.2.2.2.1 i v k ∧ up1 X.2.2.2.2.1 i v k ≤ 999 ∧ _ ∧ _ ∧ sA (uA (uA S 46 i (I v)) 109 i (I v)) 46 k = I (up1 X.2.2.2.2.1 i v k) ∧ sA (uA (uA S 46 i (I v)) 109 i (I v)) 109 k = I (up1 X.2.2.2.2.1 i v k)
    rw [b6, b7, up1_if, up1_if, up1_if]
    by_cases c : k = i
    · rw [if_pos c, if_pos c, if_pos c]
      exact ⟨a1, hv.1, hv.2, a4, a5, rfl, rfl⟩
    · rw [if_neg c, if_neg c, if_neg c]
      exact ⟨a1, a2, a3, a4, a5, a6, a7⟩
theorem inx {a b : Int} {x : Int32} (ha : -2147483648 ≤ a ∧ a < 2147483648) (hb : -2147483648 ≤ b ∧ b < 2147483648) (c1 : ¬ x < I a) (c2 : x ≤ I b) : ∃ z, x = I z ∧ a ≤ z ∧ z ≤ b := by
  obtain ⟨z, rfl, h1⟩ := I_ex x
  rw [I_lt h1 ha] at c1
  rw [I_le h1 hb] at c2
  exact ⟨z, rfl, by omega, c2⟩
theorem st_number (h : inv0 sh S p q w X) (x y : Int32) : ∃ v S1 S2 X', F_X8_number sh f S 0 x y = some (v, S1) ∧ F_X12_number sh f S1 94 x y = some (v, S2) ∧ inv0 sh S2 p q w X' ∧ X'.2.1 = X.2.1 ∧ X'.2.2.1 = X.2.2.1 ∧ X'.2.2.2.1 = X.2.2.2.1 ∧ ∀ k, k ≠ 0 → k ≠ 46 → k ≠ 94 → k ≠ 109 → Sm S S2 k := by
  obtain ⟨e1, e2, e3, e4, e5⟩ := h.2.2.2.2.2.2.2.1
  have no : ∀ z : Int32, z ≠ 0 → z ≠ 4 → z ≠ 5 → F_X8_allowed sh f S 0 z = some (0, uI S 0 16 z) := fun z hz _ _ => by simp only [F_X8_allowed, bnd, if_neg hz]
  have fin : ∀ z : Int32, z ≠ 4 ∧ z ≠ 5 → ∃ X', inv0 sh (rfS S z) p q w X' ∧ X'.2.1 = X.2.1 ∧ X'.2.2.1 = X.2.2.1 ∧ X'.2.2.2.1 = X.2.2.2.1 ∧ ∀ k, k ≠ 0 → k ≠ 46 → k ≠ 94 → k ≠ 109 → Sm S (rfS S z) k := fun z hz => ⟨X, inv0_d h hz, rfl, rfl, rfl, fun k k0 _ k1 _ => rfS_sm k0 k1⟩
  by_cases c1 : x < 0
  · obtain ⟨X', k⟩ := fin 1 (by decide)
    refine ⟨0, uI S 0 16 1, rfS S 1, X', ?_, ?_, k⟩
    · simp only [F_X8_number, if_pos c1, F_X8_allowed, bnd, if_neg i10, Option.bind_some, true_or, or_true, not_true_eq_false, if_false]
    · simp only [F_X12_number, bnd, if_pos c1, F_X12_denied, Option.bind_some, true_or, or_true, not_true_eq_false, if_false]
      rfl
  · by_cases c2 : x < I X.2.2.1
    · have c5 := cl_lt c1 c2 (by omega)
      have c6 : ¬ (x < 0 ∨ 6 ≤ x.toNatClampNeg) := by
        rintro (c | c)
        · exact c1 c
        · omega
      by_cases c3 : y < -999
      · obtain ⟨X', k⟩ := fin 2 (by decide)
        refine ⟨0, uI S 0 16 2, rfS S 2, X', ?_, ?_, k⟩
        · simp only [F_X8_number, if_neg c1, Nat.zero_add, e2, if_pos c2, if_pos c3, F_X8_allowed, bnd, if_neg i20, Option.bind_some, true_or, or_true, not_true_eq_false, if_false]
        · have e3' : sI (uI (uI S 0 16 2) 94 0 0) 94 17 = I X.2.2.1 := e3
          simp only [F_X12_number, bnd, if_neg c1, e3', if_pos c2, F_X12_in, if_pos c3, F_X12_denied, Option.bind_some, if_true, true_or, or_true, not_true_eq_false, if_false]
          rfl
      · by_cases c4 : y ≤ 999
        · obtain ⟨v, rfl, v1, v2⟩ := inx (a := -999) (b := 999) (by omega) (by omega) c3 c4
          have c7 : ¬ (999 : Int32) < I v := by rw [I_nlt]; exact c4
          refine ⟨1, uI (uA S 46 x.toNatClampNeg (I v)) 0 16 0, rfS (uA (uA S 46 x.toNatClampNeg (I v)) 109 x.toNatClampNeg (I v)) 0, nmX X x.toNatClampNeg v, ?_, ?_, inv0_d (inv0_nm h ⟨v1, v2⟩) (by decide), rfl, rfl, rfl, fun k k0 k1 k2 k3 => ?_⟩
          · simp only [F_X8_number, if_neg c1, Nat.zero_add, e2, if_pos c2, if_neg c3, if_pos c4, if_neg c6, F_X8_allowed, bnd, if_true, Option.bind_some, true_or, or_true, not_true_eq_false, if_false]
          · have e3' : sI (uI (uI (uA S 46 x.toNatClampNeg (I v)) 0 16 0) 94 0 0) 94 17 = I X.2.2.1 := e3
            simp only [F_X12_number, bnd, if_neg c1, e3', if_pos c2, F_X12_in, if_neg c3, if_neg c7, if_neg c6, if_neg i10, F_X12_granted, Option.bind_some, true_or, or_true, not_true_eq_false, if_false]
            rfl
          · exact Sm.trans (S' := uA (uA S 46 x.toNatClampNeg (I v)) 109 x.toNatClampNeg (I v)) (by repeat' (first | exact Sm.rfl | (refine Sm.uI ?_ (by omega)) | (refine Sm.uA ?_ (by omega)) | (refine Sm.uJ ?_ (by omega)) | (refine Sm.uL ?_ (by omega)) | (refine Sm.uR ?_ (by omega)))) (rfS_sm k0 k2)
        · have c7 : (999 : Int32) < y := by rw [I_nle] at c4; exact c4
          obtain ⟨X', k⟩ := fin 2 (by decide)
          refine ⟨0, uI S 0 16 2, rfS S 2, X', ?_, ?_, k⟩
          · simp only [F_X8_number, if_neg c1, Nat.zero_add, e2, if_pos c2, if_neg c3, if_neg c4, F_X8_allowed, bnd, if_neg i20, Option.bind_some, true_or, or_true, not_true_eq_false, if_false]
          · have e3' : sI (uI (uI S 0 16 2) 94 0 0) 94 17 = I X.2.2.1 := e3
            simp only [F_X12_number, bnd, if_neg c1, e3', if_pos c2, F_X12_in, if_neg c3, if_pos c7, F_X12_denied, Option.bind_some, if_true, true_or, or_true, not_true_eq_false, if_false]
            rfl
    · obtain ⟨X', k⟩ := fin 1 (by decide)
      refine ⟨0, uI S 0 16 1, rfS S 1, X', ?_, ?_, k⟩
      · simp only [F_X8_number, if_neg c1, Nat.zero_add, e2, if_neg c2, F_X8_allowed, bnd, if_neg i10, Option.bind_some, true_or, or_true, not_true_eq_false, if_false]
      · have e3' : sI (uI (uI S 0 16 1) 94 0 0) 94 17 = I X.2.2.1 := e3
        simp only [F_X12_number, bnd, if_neg c1, e3', if_neg c2, F_X12_denied, Option.bind_some, true_or, or_true, not_true_eq_false, if_false]
        rfl
/-- a letter's number -/
def leX (X : NS) (i : Nat) (v : Int) : NS := (X.1, X.2.1, X.2.2.1, X.2.2.2.1, X.2.2.2.2.1, up1 X.2.2.2.2.2 i v)
theorem inv0_le {i : Nat} {v : Int} (h : inv0 sh S p q w X) (hv : -99 ≤ v ∧ v ≤ 99) : inv0 sh (uA (uA S 59 i (I v)) 110 i (I v)) p q w (leX X i v) := by
  obtain ⟨h1, h2, ⟨d1, d2, d3⟩, h4, h5, h6, ⟨h7, h8, h9, h10⟩, h11, h12, h13, h14⟩ := h
  refine ⟨h1, h2, ⟨d1, d2, d3⟩, h4, h5, h6, ⟨h7, bkC_sm h8 (fun k a b => (by repeat' (first | exact Sm.rfl | (refine Sm.uI ?_ (by omega)) | (refine Sm.uA ?_ (by omega)) | (refine Sm.uJ ?_ (by omega)) | (refine Sm.uL ?_ (by omega)) | (refine Sm.uR ?_ (by omega))))), h9, fun z hz => ⟨(h10 z hz).1, bkR_sm (h10 z hz).2 (fun k a b => ?_)⟩⟩, h11, fun k hk => ?_, h13, h14⟩
  · have := (h4.2.2.2.2 z hz).2.1
    exact (by repeat' (first | exact Sm.rfl | (refine Sm.uI ?_ (by omega)) | (refine Sm.uA ?_ (by omega)) | (refine Sm.uJ ?_ (by omega)) | (refine Sm.uL ?_ (by omega)) | (refine Sm.uR ?_ (by omega))))
  · obtain ⟨a1, a2, a3, a4⟩ := h12 k hk
    have b3 : sA (uA (uA S 59 i (I v)) 110 i (I v)) 59 k = up1 (sA S 59) i (I v) k := rfl
    have b4 : sA (uA (uA S 59 i (I v)) 110 i (I v)) 110 k = up1 (sA S 110) i (I v) k := rfl
    show -99 ≤ up1 X.2.2.2.2.2 i v k ∧ up1 X.2.2.2.2.2 i v k ≤ 99 ∧ sA (uA (uA S 59 i (I v)) 110 i (I v)) 59 k = I (up1 X.2.2.2.2.2 i v k) ∧ sA (uA (uA S 59 i (I v)) 110 i (I v)) 110 k = I (up1 X.2.2.2.2.2 i v k)
    rw [b3, b4, up1_if, up1_if, up1_if]
    by_cases c : k = i
    · rw [if_pos c, if_pos c, if_pos c]
      exact ⟨hv.1, hv.2, rfl, rfl⟩
    · rw [if_neg c, if_neg c, if_neg c]
      exact ⟨a1, a2, a3, a4⟩
theorem st_letter (h : inv0 sh S p q w X) (x y : Int32) : ∃ v S1 S2 X', F_X8_letter sh f S 0 x y = some (v, S1) ∧ F_X12_letter sh f S1 94 x y = some (v, S2) ∧ inv0 sh S2 p q w X' ∧ X'.2.1 = X.2.1 ∧ X'.2.2.1 = X.2.2.1 ∧ X'.2.2.2.1 = X.2.2.2.1 ∧ ∀ k, k ≠ 0 → k ≠ 59 → k ≠ 94 → k ≠ 110 → Sm S S2 k := by
  have k0 := pc0 h
  have hp := h.2.1.1
  have hq := h.2.2.2.1.1
  obtain ⟨b1, b2, b3, b4⟩ := h.2.2.2.2.2.2.1
  have bk := b2.1
  have bk8 := b1.1.1
  have fin : ∀ z : Int32, z ≠ 4 ∧ z ≠ 5 → ∃ X', inv0 sh (rfS S z) p q w X' ∧ X'.2.1 = X.2.1 ∧ X'.2.2.1 = X.2.2.1 ∧ X'.2.2.2.1 = X.2.2.2.1 ∧ ∀ k, k ≠ 0 → k ≠ 59 → k ≠ 94 → k ≠ 110 → Sm S (rfS S z) k := fun z hz => ⟨X, inv0_d h hz, rfl, rfl, rfl, fun k k0 _ k1 _ => rfS_sm k0 k1⟩
  cases hq' : q with
  | none =>
    have c : sI S p.1 9 ≤ 0 := by rw [bk, b3 hq']; decide
    obtain ⟨X', k⟩ := fin 1 (by decide)
    refine ⟨0, uI S 0 16 1, rfS S 1, X', ?_, ?_, hq' ▸ k⟩
    · simp only [F_X8_letter, hp, Option.bind_some, if_pos k0, F_X0_isTold, if_pos c, if_true, F_X8_allowed, bnd, if_neg i10, true_or, or_true, not_true_eq_false, if_false]
    · have hn : sR (uI (uI S 0 16 1) 94 0 0) 94 5 = none := hq.trans hq'
      simp only [F_X12_letter, bnd, hn, oN, F_X12_denied, Option.bind_some, true_or, or_true, not_true_eq_false, if_false]
      rfl
  | some z =>
    have c : ¬ sI S p.1 9 ≤ 0 := by
      rw [bk, show (0 : Int32) = I 0 from rfl, I_le (by omega) (by omega)]
      have := (b4 z hq').1
      omega
    have hs : ∀ T : St, sR T 94 5 = sR S 94 5 → sR T 94 5 = some z := fun T e => e.trans (hq.trans hq')
    have two : (3 : Int32) = I 3 := rfl
    by_cases c1 : x < 0
    · obtain ⟨X', k⟩ := fin 1 (by decide)
      refine ⟨0, uI S 0 16 1, rfS S 1, X', ?_, ?_, hq' ▸ k⟩
      · simp only [F_X8_letter, hp, Option.bind_some, if_pos k0, F_X0_isTold, if_neg c, if_neg i10, if_pos c1, F_X8_allowed, bnd, true_or, or_true, not_true_eq_false, if_false]
      · have hn := hs (uI (uI S 0 16 1) 94 0 0) rfl
        simp only [F_X12_letter, bnd, hn, oN, F_X12_in, if_pos c1, Option.bind_some, if_true, F_X12_denied, true_or, or_true, not_true_eq_false, if_false]
        rfl
    · by_cases c2 : x < 3
      · have c5 := cl_lt (n := 3) c1 c2 (by omega)
        have c6 : ¬ (x < 0 ∨ 3 ≤ x.toNatClampNeg) := by
          rintro (c | c)
          · exact c1 c
          · omega
        have c8 : ¬ 2 < x := by
          obtain ⟨z, rfl, h1⟩ := I_ex x
          rw [show (3 : Int32) = I 3 from rfl, I_lt h1 (by omega)] at c2
          rw [show (2 : Int32) = I 2 from rfl, I_lt (by omega) h1]
          omega
        by_cases c3 : y < -99
        · obtain ⟨X', k⟩ := fin 2 (by decide)
          refine ⟨0, uI S 0 16 2, rfS S 2, X', ?_, ?_, hq' ▸ k⟩
          · simp only [F_X8_letter, hp, Option.bind_some, if_pos k0, F_X0_isTold, if_neg c, if_neg i10, if_neg c1, if_pos c2, if_pos c3, F_X8_allowed, bnd, if_neg i20, true_or, or_true, not_true_eq_false, if_false]
          · have hn := hs (uI (uI S 0 16 2) 94 0 0) rfl
            simp only [F_X12_letter, bnd, hn, oN, F_X12_in, if_neg c1, if_neg c8, Option.bind_some, if_neg i10, if_pos c3, if_true, F_X12_denied, true_or, or_true, not_true_eq_false, if_false]
            rfl
        · by_cases c4 : y ≤ 99
          · obtain ⟨v, rfl, v1, v2⟩ := inx (a := -99) (b := 99) (by omega) (by omega) c3 c4
            have c7 : ¬ (99 : Int32) < I v := by rw [I_nlt]; exact c4
            refine ⟨1, uI (uA S 59 x.toNatClampNeg (I v)) 0 16 0, rfS (uA (uA S 59 x.toNatClampNeg (I v)) 110 x.toNatClampNeg (I v)) 0, leX X x.toNatClampNeg v, ?_, ?_, hq' ▸ inv0_d (inv0_le h ⟨v1, v2⟩) (by decide), rfl, rfl, rfl, fun k k0 k1 k2 k3 => ?_⟩
            · simp only [F_X8_letter, hp, Option.bind_some, if_pos k0, F_X0_isTold, if_neg c, if_neg i10, if_neg c1, if_pos c2, if_neg c3, if_pos c4, if_neg c6, Nat.zero_add, F_X8_allowed, bnd, if_true, true_or, or_true, not_true_eq_false, if_false]
            · have hn := hs (uI (uI (uA S 59 x.toNatClampNeg (I v)) 0 16 0) 94 0 0) rfl
              simp only [F_X12_letter, bnd, hn, oN, F_X12_in, if_neg c1, if_neg c8, Option.bind_some, if_neg i10, if_neg c3, if_neg c7, if_neg c6, F_X12_granted, true_or, or_true, not_true_eq_false, if_false]
              rfl
            · exact Sm.trans (S' := uA (uA S 59 x.toNatClampNeg (I v)) 110 x.toNatClampNeg (I v)) (by repeat' (first | exact Sm.rfl | (refine Sm.uI ?_ (by omega)) | (refine Sm.uA ?_ (by omega)) | (refine Sm.uJ ?_ (by omega)) | (refine Sm.uL ?_ (by omega)) | (refine Sm.uR ?_ (by omega)))) (rfS_sm k0 k2)
          · have c7 : (99 : Int32) < y := by rw [I_nle] at c4; exact c4
            obtain ⟨X', k⟩ := fin 2 (by decide)
            refine ⟨0, uI S 0 16 2, rfS S 2, X', ?_, ?_, hq' ▸ k⟩
            · simp only [F_X8_letter, hp, Option.bind_some, if_pos k0, F_X0_isTold, if_neg c, if_neg i10, if_neg c1, if_pos c2, if_neg c3, if_neg c4, F_X8_allowed, bnd, if_neg i20, true_or, or_true, not_true_eq_false, if_false]
            · have hn := hs (uI (uI S 0 16 2) 94 0 0) rfl
              simp only [F_X12_letter, bnd, hn, oN, F_X12_in, if_neg c1, if_neg c8, Option.bind_some, if_neg i10, if_neg c3, if_pos c7, if_true, F_X12_denied, true_or, or_true, not_true_eq_false, if_false]
              rfl
      · have c8 : 2 < x := by
          obtain ⟨z, rfl, h1⟩ := I_ex x
          rw [show (3 : Int32) = I 3 from rfl, I_lt h1 (by omega)] at c2
          rw [show (2 : Int32) = I 2 from rfl, I_lt (by omega) h1]
          omega
        obtain ⟨X', k⟩ := fin 1 (by decide)
        refine ⟨0, uI S 0 16 1, rfS S 1, X', ?_, ?_, hq' ▸ k⟩
        · simp only [F_X8_letter, hp, Option.bind_some, if_pos k0, F_X0_isTold, if_neg c, if_neg i10, if_neg c1, if_neg c2, F_X8_allowed, bnd, true_or, or_true, not_true_eq_false, if_false]
        · have hn := hs (uI (uI S 0 16 1) 94 0 0) rfl
          simp only [F_X12_letter, bnd, hn, oN, F_X12_in, if_neg c1, if_pos c8, Option.bind_some, if_true, F_X12_denied, true_or, or_true, not_true_eq_false, if_false]
          rfl
end B52
