section C93
variable {sh : List Sh} {f : Nat} {S : St} {p : PC} {q : Option Nat} {w : Nat} {X : NS}
theorem st_count0 (h : inv0 sh S p q w X) (x : Int32) (hx : ¬ ((x = 3 ∨ x = 4 ∨ x = 5 ∨ x = 6) ∧ sI S 0 14 = 1)) : ∃ v, F_X8_count sh f S 0 x = some v ∧ F_X12_count sh f S 94 x = some (v, uI S 94 0 0) ∧ inv0 sh (uI S 94 0 0) p q w X := by
  have k0 := pc0 h
  have hp := h.2.1.1
  have hq := h.2.2.2.1.1
  obtain ⟨b1, b2, b3, b4⟩ := h.2.2.2.2.2.2.1
  have en := h.2.2.2.2.2.2.2.1
  have tp := h.2.2.2.2.1
  have li := h.2.2.2.2.2.2.2.2.2.2
  have hI := inv0_I (j := 0) (x := 0) h rfl (Or.inl rfl)
  have l18 : sI (uI S 94 0 0) 94 18 = sI S 0 14 := li.1
  by_cases x7 : x = 7
  · subst x7
    refine ⟨I X.1, ?_, ?_, hI⟩
    · simp only [F_X8_count, Nat.zero_add]
      rw [if_neg (by decide), if_neg (by decide), if_neg (by decide), if_neg (by decide), if_neg (by decide), if_neg (by decide), if_neg (by decide), if_pos trivial, tp.2.1]
    · simp only [F_X12_count, bnd, F_X12_in]
      rw [if_neg (by decide), if_neg (by decide), Option.bind_some, if_neg (by decide), if_pos trivial, show sI (uI S 94 0 0) 94 9 = I X.1 from tp.2.2.1]
  · by_cases x2 : x = 2
    · subst x2
      refine ⟨I X.2.2.1, ?_, ?_, hI⟩
      · simp only [F_X8_count, Nat.zero_add]
        rw [if_neg (by decide), if_neg (by decide), if_pos trivial, en.2.1]
      · simp only [F_X12_count, bnd, F_X12_in]
        rw [if_neg (by decide), if_neg (by decide), Option.bind_some, if_neg (by decide), if_neg (by decide), if_pos trivial, show sI (uI S 94 0 0) 94 17 = I X.2.2.1 from en.2.2.1]
    · by_cases x0 : x = 0
      · subst x0
        refine ⟨I (bK X.2.1), ?_, ?_, hI⟩
        · simp only [F_X8_count]
          rw [if_pos trivial, hp, Option.bind_some, if_pos k0, b2.1]
        · simp only [F_X12_count, bnd, F_X12_in]
          rw [if_neg (by decide), if_neg (by decide), Option.bind_some, if_neg (by decide), if_neg (by decide), if_neg (by decide), if_neg (by decide)]
          cases hq' : q with
          | none =>
            have hn : sR (uI S 94 0 0) 94 5 = none := hq.trans hq'
            rw [hn, b3 hq']
            rfl
          | some z =>
            have hn : sR (uI S 94 0 0) 94 5 = some z := hq.trans hq'
            obtain ⟨z1, z2, z3⟩ := h.2.2.2.1.2.2.2.2 z hq'
            obtain ⟨r1, r2, r3, r4⟩ := bkR_sm (S' := uI S 94 0 0) (b4 z hq').2 (fun k a b => uI_o (by omega))
            rw [hn]
            show (if (0 : Int32) = 0 then (if ckX9 sh z = true then some (sI (uI S 94 0 0) z 0, uI S 94 0 0) else none) else (if ckX9 sh z = true then some (sI (uI S 94 0 0) z 1, uI S 94 0 0) else none)) = _
            rw [if_pos rfl, if_pos z1, r1]
      · by_cases x1 : x = 1
        · subst x1
          refine ⟨I (bR X.2.1), ?_, ?_, hI⟩
          · simp only [F_X8_count]
            rw [if_neg (by decide), if_pos trivial, hp, Option.bind_some, if_pos k0, b2.2.1]
          · simp only [F_X12_count, bnd, F_X12_in]
            rw [if_neg (by decide), if_neg (by decide), Option.bind_some, if_neg (by decide), if_neg (by decide), if_neg (by decide), if_neg (by decide)]
            cases hq' : q with
            | none =>
              have hn : sR (uI S 94 0 0) 94 5 = none := hq.trans hq'
              rw [hn, b1.2.2.1 (b3 hq')]
              rfl
            | some z =>
              have hn : sR (uI S 94 0 0) 94 5 = some z := hq.trans hq'
              obtain ⟨z1, z2, z3⟩ := h.2.2.2.1.2.2.2.2 z hq'
              obtain ⟨r1, r2, r3, r4⟩ := bkR_sm (S' := uI S 94 0 0) (b4 z hq').2 (fun k a b => uI_o (by omega))
              rw [hn]
              show (if (1 : Int32) = 0 then (if ckX9 sh z = true then some (sI (uI S 94 0 0) z 0, uI S 94 0 0) else none) else (if ckX9 sh z = true then some (sI (uI S 94 0 0) z 1, uI S 94 0 0) else none)) = _
              rw [if_neg (by decide), if_pos z1, r2]
        · by_cases xm : x = 3 ∨ x = 4 ∨ x = 5 ∨ x = 6
          · have l0 : sI S 0 14 = 0 := by
              rcases li.2 with l | l
              · exact l
              · exact absurd ⟨xm, l⟩ hx
            refine ⟨0, ?_, ?_, hI⟩
            · rcases xm with rfl | rfl | rfl | rfl
              all_goals
                simp only [F_X8_count, l0, if_true]
                rfl
            · rcases xm with rfl | rfl | rfl | rfl
              all_goals
                simp only [F_X12_count, bnd, F_X12_in, l18, l0, if_true]
                rfl
          · refine ⟨-1, ?_, ?_, hI⟩
            · have n3 : ¬ x = 3 := fun e => xm (Or.inl e)
              have n4 : ¬ x = 4 := fun e => xm (Or.inr (Or.inl e))
              have n5 : ¬ x = 5 := fun e => xm (Or.inr (Or.inr (Or.inl e)))
              have n6 : ¬ x = 6 := fun e => xm (Or.inr (Or.inr (Or.inr e)))
              simp only [F_X8_count, if_neg x0, if_neg x1, if_neg x2, if_neg n3, if_neg n4, if_neg n5, if_neg n6, if_neg x7]
            · have out : x < 0 ∨ 7 < x := by
                obtain ⟨z, rfl, hz⟩ := I_ex x
                rw [show (7 : Int32) = I 7 from rfl, I_eq hz (by omega)] at x7
                rw [show (2 : Int32) = I 2 from rfl, I_eq hz (by omega)] at x2
                rw [show (0 : Int32) = I 0 from rfl, I_eq hz (by omega)] at x0
                rw [show (1 : Int32) = I 1 from rfl, I_eq hz (by omega)] at x1
                rw [show (3 : Int32) = I 3 from rfl, show (4 : Int32) = I 4 from rfl, show (5 : Int32) = I 5 from rfl, show (6 : Int32) = I 6 from rfl, I_eq hz (by omega), I_eq hz (by omega), I_eq hz (by omega), I_eq hz (by omega)] at xm
                rw [show (0 : Int32) = I 0 from rfl, show (7 : Int32) = I 7 from rfl, I_lt hz (by omega), I_lt (by omega) hz]
                omega
              by_cases o : x < 0
              · simp only [F_X12_count, bnd, F_X12_in, if_pos o, Option.bind_some, if_true]
              · have o' : 7 < x := out.resolve_left o
                simp only [F_X12_count, bnd, F_X12_in, if_neg o, if_pos o', Option.bind_some, if_true]
end C93
