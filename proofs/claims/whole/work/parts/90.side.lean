theorem msk_bits : ∀ n : Fin 7, ∀ i : Fin 32, ((((1 : Int32) <<< (I (n.val : Int) &&& 31)) - 1) ^^^ (-1)).toBitVec.getLsbD i.val = decide (n.val ≤ i.val) := by decide +kernel
theorem mask_in {n : Nat} (hn : n ≤ 6) (x : Int32) : (x &&& ((((1 : Int32) <<< (I n &&& 31)) - 1) ^^^ (-1)) = 0) = (∃ s : Nat, s < 2 ^ n ∧ x = I s) := by
  have p6 : 2 ^ n ≤ 2 ^ 6 := Nat.pow_le_pow_right (by omega) hn
  have mb : ∀ i, i < 32 → ((((1 : Int32) <<< (I n &&& 31)) - 1) ^^^ (-1)).toBitVec.getLsbD i = decide (n ≤ i) := fun i hi => msk_bits ⟨n, by omega⟩ ⟨i, hi⟩
  generalize ((((1 : Int32) <<< (I n &&& 31)) - 1) ^^^ (-1)) = m at mb
  refine propext ⟨fun h => ?_, fun ⟨s, hs, hx⟩ => ?_⟩
  · have hb := congrArg Int32.toBitVec h
    rw [Int32.toBitVec_and] at hb
    have lt : x.toBitVec.toNat < 2 ^ n := by
      apply Nat.lt_pow_two_of_testBit
      intro i hi
      by_cases c : i < 32
      · have := congrArg (fun z => BitVec.getLsbD z i) hb
        simp only [BitVec.getLsbD_and, mb i c, decide_eq_true hi, Bool.and_true] at this
        rw [BitVec.testBit_toNat, this]
        show BitVec.getLsbD (0 : Int32).toBitVec i = false
        exact BitVec.getLsbD_zero
      · rw [BitVec.testBit_toNat]
        exact BitVec.getLsbD_of_ge _ _ (by omega)
    exact ⟨x.toBitVec.toNat, lt, I_by (by omega) rfl⟩
  · subst hx
    apply Int32.toBitVec_inj.mp
    rw [Int32.toBitVec_and]
    apply BitVec.eq_of_getLsbD_eq
    intro i hi
    rw [BitVec.getLsbD_and, mb i hi]
    by_cases c : n ≤ i
    · have z : (I (s : Int)).toBitVec.getLsbD i = false := by
        rw [← BitVec.testBit_toNat, I_nat (by omega)]
        apply Nat.testBit_lt_two_pow
        exact Nat.lt_of_lt_of_le hs (Nat.pow_le_pow_right (by omega) c)
      rw [z, Bool.false_and]
      exact BitVec.getLsbD_zero.symm
    · rw [decide_eq_false c, Bool.and_false]
      exact BitVec.getLsbD_zero.symm
