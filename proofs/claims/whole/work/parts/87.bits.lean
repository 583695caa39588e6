/-! BITS of small numbers: and, or, shifts of ints that are no less than 0. -/
theorem I_nat {n : Nat} (h : n < 2147483648) : (I n).toBitVec.toNat = n := by
  have h1 : (I n).toInt = n := I_toInt (by omega)
  have h2 : (I n).toInt = (I n).toBitVec.toInt := rfl
  rw [h2] at h1
  have h3 := BitVec.toInt_eq_toNat_cond (I n).toBitVec
  have h4 := (I n).toBitVec.isLt
  rw [h1] at h3
  by_cases c : 2 * (I n).toBitVec.toNat < 2 ^ 32
  · rw [if_pos c] at h3; omega
  · rw [if_neg c] at h3; omega
theorem I_by {x : Int32} {a : Nat} (ha : a < 2147483648) (h : x.toBitVec.toNat = a) : x = I a := by
  apply Int32.toBitVec_inj.mp
  apply BitVec.eq_of_toNat_eq
  rw [h, I_nat ha]
theorem I_and {a b : Nat} (ha : a < 2147483648) (hb : b < 2147483648) : I a &&& I b = I ((a &&& b : Nat) : Int) := by
  apply I_by (Nat.lt_of_le_of_lt Nat.and_le_left ha)
  rw [Int32.toBitVec_and, BitVec.toNat_and, I_nat ha, I_nat hb]
theorem I_or {a b : Nat} (ha : a < 2147483648) (hb : b < 2147483648) : I a ||| I b = I ((a ||| b : Nat) : Int) := by
  apply I_by (Nat.or_lt_two_pow (n := 31) ha hb)
  rw [Int32.toBitVec_or, BitVec.toNat_or, I_nat ha, I_nat hb]
theorem sh_c : ∀ k : Fin 32, (I (k.val : Int) &&& 31).toBitVec.smod 32 = BitVec.ofNat 32 k.val := by decide +kernel
theorem I_shl {a k : Nat} (hk : k < 31) (ha : a * 2 ^ k < 2147483648) : I a <<< (I k &&& 31) = I ((a * 2 ^ k : Nat) : Int) := by
  apply I_by ha
  have p : 0 < 2 ^ k := Nat.two_pow_pos k
  have a1 : a ≤ a * 2 ^ k := Nat.le_mul_of_pos_right a p
  rw [Int32.toBitVec_shiftLeft, sh_c ⟨k, by omega⟩]
  show ((I a).toBitVec <<< (BitVec.ofNat 32 k)).toNat = _
  rw [BitVec.shiftLeft_eq', BitVec.toNat_shiftLeft, I_nat (by omega), BitVec.toNat_ofNat, Nat.mod_eq_of_lt (show k < 2 ^ 32 by omega), Nat.shiftLeft_eq, Nat.mod_eq_of_lt (by omega)]
theorem I_shr {a k : Nat} (hk : k < 32) (ha : a < 2147483648) : I a >>> (I k &&& 31) = I ((a / 2 ^ k : Nat) : Int) := by
  have key : ∀ d : Nat, d = a / 2 ^ k → I a >>> (I k &&& 31) = I (d : Int) := by
    intro d hd
    have h1 : d ≤ a := by rw [hd]; exact Nat.div_le_self _ _
    rw [← Int32.toInt_inj, I_toInt (by omega)]
    show (I a >>> (I k &&& 31)).toBitVec.toInt = _
    rw [Int32.toBitVec_shiftRight, sh_c ⟨k, hk⟩]
    show ((I a).toBitVec.sshiftRight (BitVec.ofNat 32 k).toNat).toInt = _
    rw [BitVec.toInt_sshiftRight, BitVec.toNat_ofNat, Nat.mod_eq_of_lt (show k < 2 ^ 32 by omega)]
    have h2 : (I a).toBitVec.toInt = (a : Int) := I_toInt (by omega)
    rw [h2, Int.shiftRight_eq_div_pow, hd]
    norm_cast
  exact key _ rfl
theorem one_shl {k : Nat} (hk : k < 31) : (1 : Int32) <<< (I k &&& 31) = I ((2 ^ k : Nat) : Int) := by
  have p : 2 ^ k ≤ 2 ^ 30 := Nat.pow_le_pow_right (by omega) (by omega)
  have := I_shl (a := 1) (k := k) hk (by omega)
  rw [Nat.one_mul] at this
  exact this
