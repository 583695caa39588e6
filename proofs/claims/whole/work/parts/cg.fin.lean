/-! THE END of a worth: both answer alike. -/
section CGx
variable {sh : List Sh} {S S1 S2 : St} {p : PC} {q : Option Nat} {w : Nat} {X : NS}
/-- what the class leaves: the code z, the rests r, the pole P -/
def cAns (S S1 : St) (p : PC) (z : Int32) (r : Nat → Nat) (P : Int32) : Prop := (∀ x, x ≠ 0 → (x < 14 ∨ 22 < x) → (x < p.2.2.2.1 ∨ p.2.2.2.1 + 16 < x) → ¬ (47 ≤ x ∧ x ≤ 58) → (x < p.2.2.2.2.2 ∨ p.2.2.2.2.2 + 2 < x) → Sm S S1 x) ∧ jnC S1 (fun _ _ => 0) ∧ (∀ j, j ≠ 12 → j ≠ 13 → sR S1 0 j = sR S 0 j) ∧ (∀ j, j ≠ 15 → j ≠ 17 → sI S1 0 j = sI S 0 j) ∧ (z ≠ 0 → sI S1 0 15 = sI S 0 15 ∧ sR S1 0 12 = sR S 0 12 ∧ sR S1 0 13 = sR S 0 13) ∧ (z = 0 → sI S1 0 15 = 1 ∧ sR S1 0 12 = some p.2.2.2.2.2 ∧ sR S1 0 13 = some p.2.2.2.2.1 ∧ sJ S1 p.2.2.2.2.2 4 = J (fT r) ∧ sJ S1 p.2.2.2.2.2 5 = J (fU r : Nat) ∧ ∀ k, k < 4 → sL S1 (p.2.2.2.2.2 + 1) k = J (r k : Nat)) ∧ (z = 5 → sI S1 0 17 = P)
/-- what the reference leaves -/
def rAns (S S2 : St) (z : Int32) (r : Nat → Nat) (P : Int32) : Prop := sI S2 94 1 = z ∧ sI S2 94 2 = -1 ∧ sI S2 94 4 = (if z = 5 then P else -1) ∧ (∀ j, sR S2 94 j = sR S 94 j) ∧ (∀ j, j = 3 ∨ j = 9 ∨ j = 17 ∨ j = 18 → sI S2 94 j = sI S 94 j) ∧ (∀ x, x ≠ 94 → ¬ (118 ≤ x ∧ x ≤ 156) → Sm S S2 x) ∧ (z ≠ 0 → sJ S2 94 = sJ S 94 ∧ Sm S S2 156) ∧ (z = 0 → sJ S2 94 53 = J (fT r) ∧ sJ S2 94 54 = J (fU r : Nat) ∧ ∀ k, k < 4 → sA S2 156 k = I (r k : Nat))
theorem st_end {z : Int32} {r : Nat → Nat} {P : Int32} (h : inv sh S p q w X) (hz : z ≠ 4) (hr : z = 0 → ∀ k, k < 4 → r k < pQ k) (c : cAns S S1 p z r P) (e : rAns (uI S1 0 16 z) S2 z r P) : ∃ p', inv sh S2 p' q w X := by
  have h0 := h.1
  have pt := h0.2.1
  have pd := h0.2.2.1
  obtain ⟨c1, c2, c3, c4, c5, c6, c7⟩ := c
  obtain ⟨e1, e2, e3, e4, e5, e6, e7, e8⟩ := e
  have gG := pd.2.1
  have gA := pd.2.2
  have gL := pg h0
  have k1 : ∀ x, x ≠ 0 → x ≠ 94 → (x < 14 ∨ 22 < x) → (x < p.2.2.2.1 ∨ p.2.2.2.1 + 16 < x) → ¬ (47 ≤ x ∧ x ≤ 58) → (x < p.2.2.2.2.2 ∨ p.2.2.2.2.2 + 2 < x) → ¬ (118 ≤ x ∧ x ≤ 156) → Sm S S2 x := fun x a b c d e f g => ((c1 x a c d e f).trans (show Sm S1 (uI S1 0 16 z) x from (by repeat' (first | exact Sm.rfl | (refine Sm.uI ?_ (by omega)) | (refine Sm.uA ?_ (by omega)) | (refine Sm.uJ ?_ (by omega)) | (refine Sm.uL ?_ (by omega)) | (refine Sm.uR ?_ (by omega)))))).trans (e6 x b g)
  have s0 : Sm (uI S1 0 16 z) S2 0 := e6 0 (by omega) (by omega)
  have t0 : Sm S1 S2 p.2.2.2.2.2 := (show Sm S1 (uI S1 0 16 z) _ from (by repeat' (first | exact Sm.rfl | (refine Sm.uI ?_ (by omega)) | (refine Sm.uA ?_ (by omega)) | (refine Sm.uJ ?_ (by omega)) | (refine Sm.uL ?_ (by omega)) | (refine Sm.uR ?_ (by omega))))).trans (e6 _ (by omega) (by omega))
  have t1 : Sm S1 S2 (p.2.2.2.2.2 + 1) := (show Sm S1 (uI S1 0 16 z) _ from (by repeat' (first | exact Sm.rfl | (refine Sm.uI ?_ (by omega)) | (refine Sm.uA ?_ (by omega)) | (refine Sm.uJ ?_ (by omega)) | (refine Sm.uL ?_ (by omega)) | (refine Sm.uR ?_ (by omega))))).trans (e6 _ (by omega) (by omega))
  have s94 : Sm S S1 94 := c1 94 (by omega) (by omega) (by omega) (by omega) (by omega)
  have u94 : Sm S (uI S1 0 16 z) 94 := s94.trans (by repeat' (first | exact Sm.rfl | (refine Sm.uI ?_ (by omega)) | (refine Sm.uA ?_ (by omega)) | (refine Sm.uJ ?_ (by omega)) | (refine Sm.uL ?_ (by omega)) | (refine Sm.uR ?_ (by omega))))
  have s16 : sI S2 0 16 = z := by rw [s0.I, sI_self]
  have i0 : ∀ j, j ≠ 15 → j ≠ 16 → j ≠ 17 → sI S2 0 j = sI S 0 j := fun j a b c => by rw [s0.I, sI_ne _ _ _ b]; exact c4 j a c
  have i15 : sI S2 0 15 = sI S1 0 15 := by rw [s0.I, sI_ne _ _ _ (by omega)]
  have i17 : sI S2 0 17 = sI S1 0 17 := by rw [s0.I, sI_ne _ _ _ (by omega)]
  have r0 : ∀ j, sR S2 0 j = sR S1 0 j := fun j => s0.R j
  have j22 : jnC S2 (fun _ _ => 0) := jnC_sm c2 ((show Sm S1 (uI S1 0 16 z) 22 from (by repeat' (first | exact Sm.rfl | (refine Sm.uI ?_ (by omega)) | (refine Sm.uA ?_ (by omega)) | (refine Sm.uJ ?_ (by omega)) | (refine Sm.uL ?_ (by omega)) | (refine Sm.uR ?_ (by omega))))).trans (e6 22 (by omega) (by omega)))
  have n4 : sI S2 94 4 = (if sI S2 0 16 = 5 then sI S2 0 17 else -1) := by
    rw [e3, s16]
    by_cases y : z = 5
    · rw [if_pos y, if_pos y, i17, c7 y]
    · rw [if_neg y, if_neg y]
  have li : liF S2 := ⟨by rw [e5 18 (by omega), u94.I, i0 14 (by omega) (by omega) (by omega)]; exact h0.2.2.2.2.2.2.2.2.2.2.1, by rw [i0 14 (by omega) (by omega) (by omega)]; exact h0.2.2.2.2.2.2.2.2.2.2.2⟩
  have s13 : sR S2 13 2 = some p.2.2.2.1 := ((k1 13 (by omega) (by omega) (by omega) (by omega) (by omega) (by omega) (by omega)).R 2).trans pt.2.2.2.1
  have s1 : sR S2 1 10 = some p.2.1 := ((k1 1 (by omega) (by omega) (by omega) (by omega) (by omega) (by omega) (by omega)).R 10).trans pt.2.1
  have rest : ∀ p' : PC, p'.1 = p.1 ∧ p'.2.1 = p.2.1 → p'.2.2.1 = p.2.2.1 → ptC S2 p' → ptD p' → anR S2 p'.2.2.2.2.1 → inv sh S2 p' q w X := fun p' a b c d e => by
    have i : inv0 sh S2 p' q w X := inv0_chg h0 a c d e li (by rw [s16]; exact hz) (by rw [e1, s16]) e2 n4 (fun j hj => by rw [e5 j (by omega), u94.I]) (fun j => by rw [e4 j, u94.R]) (fun x hx => k1 x (by omega) (by omega) (by omega) (by omega) (by omega) (by omega) (by omega))
    refine ⟨i, j22, fun l => ?_⟩
    rw [i0 14 (by omega) (by omega) (by omega)] at l
    obtain ⟨V, v⟩ := h.2.2 l
    rw [b]
    exact ⟨V, liV_sm v rfl rfl rfl (fun x a b => k1 x (by omega) (by omega) (by omega) (by omega) (by omega) (by omega) (by omega)) (fun x a b => k1 x (by omega) (by omega) (by omega) (by omega) (by omega) (by omega) (by omega))⟩
  by_cases y : z = 0
  · obtain ⟨a1, a2, a3, a4, a5, a6⟩ := c6 y
    obtain ⟨b1, b2, b3⟩ := e8 y
    refine ⟨(p.1, p.2.1, p.2.2.1, p.2.2.2.1, p.2.2.2.2.2, p.2.2.2.2.1), rest _ ⟨rfl, rfl⟩ rfl ⟨?_, s1, ?_, s13, ?_, ?_⟩ ⟨pd.1, pd.2.1, ?_⟩ (Or.inr ⟨?_, ?_, ?_, fun i hi => ?_⟩)⟩
    · rw [r0, c3 10 (by omega) (by omega)]; exact pt.1
    · rw [r0, c3 11 (by omega) (by omega)]; exact pt.2.2.1
    · rw [r0]; exact a2
    · rw [r0]; exact a3
    · show p.2.2.2.2.2 = 88 ∧ p.2.2.2.2.1 = 91 ∨ p.2.2.2.2.2 = 91 ∧ p.2.2.2.2.1 = 88
      omega
    · rw [i15]; exact a1
    · show sJ S2 p.2.2.2.2.2 4 = _
      rw [t0.J, a4, b1]
    · show sJ S2 p.2.2.2.2.2 5 = _
      rw [t0.J, a5, b2]
    · show (sL S2 (p.2.2.2.2.2 + 1) i).toInt32 = _
      have := hr y i hi
      have := pQ_b i
      rw [t1.L, a6 i hi, b3 i hi, J_to32 (by omega)]
  · obtain ⟨a1, a2, a3⟩ := c5 y
    obtain ⟨b1, b2⟩ := e7 y
    have kk : ∀ x, x = p.2.2.2.2.1 ∨ x = p.2.2.2.2.1 + 1 → Sm S S2 x := fun x hx => k1 x (by omega) (by omega) (by omega) (by omega) (by omega) (by omega) (by omega)
    refine ⟨p, rest p ⟨rfl, rfl⟩ rfl ⟨?_, s1, ?_, s13, ?_, ?_⟩ pd (anR_sm h0.2.2.2.2.2.2.2.2.2.1 (i15.trans a1) (b1.trans u94.2.2.2.1) (kk _ (Or.inl rfl)) (kk _ (Or.inr rfl)) ?_)⟩
    · rw [r0, c3 10 (by omega) (by omega)]; exact pt.1
    · rw [r0, c3 11 (by omega) (by omega)]; exact pt.2.2.1
    · rw [r0, a2]; exact pt.2.2.2.2.1
    · rw [r0, a3]; exact pt.2.2.2.2.2
    · exact ((c1 156 (by omega) (by omega) (by omega) (by omega) (by omega)).trans (show Sm S1 (uI S1 0 16 z) 156 from (by repeat' (first | exact Sm.rfl | (refine Sm.uI ?_ (by omega)) | (refine Sm.uA ?_ (by omega)) | (refine Sm.uJ ?_ (by omega)) | (refine Sm.uL ?_ (by omega)) | (refine Sm.uR ?_ (by omega)))))).trans b2
end CGx
