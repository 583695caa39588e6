/-! NUMBERS IN DIGITS of a base: carries; words of 32 bits. -/
section B2a
def dv (B : Int) (a : Nat → Int) : Nat → Int
  | 0 => 0
  | m + 1 => dv B a m + a m * B ^ m
theorem dv_cg {B : Int} {a b : Nat → Int} : ∀ {m : Nat}, (∀ k, k < m → a k = b k) → dv B a m = dv B b m
  | 0, _ => rfl
  | m + 1, h => by rw [dv, dv, dv_cg (m := m) (fun k hk => h k (by omega)), h m (by omega)]
/-- what carries do -/
theorem dv_carry {B : Int} {x y : Nat → Int} {c : Nat → Int} : ∀ {m : Nat}, (∀ k, k < m → c (k + 1) * B + y k = c k + x k) → dv B y m + c m * B ^ m = c 0 + dv B x m
  | 0, _ => by simp [dv]
  | m + 1, h => by
    have ih := dv_carry (m := m) (fun k hk => h k (by omega))
    have s := h m (by omega)
    rw [dv, dv, Int.pow_succ]
    grind
theorem dv_add {B : Int} {x y : Nat → Int} : ∀ m : Nat, dv B (fun k => x k + y k) m = dv B x m + dv B y m
  | 0 => by simp [dv]
  | m + 1 => by rw [dv, dv, dv, dv_add m]; grind
theorem dv_mul {B p : Int} {x : Nat → Int} : ∀ m : Nat, dv B (fun k => x k * p) m = dv B x m * p
  | 0 => by simp [dv]
  | m + 1 => by rw [dv, dv, dv_mul m]; grind
theorem dv_neg {B : Int} {x : Nat → Int} : ∀ m : Nat, dv B (fun k => - x k) m = - dv B x m
  | 0 => by simp [dv]
  | m + 1 => by rw [dv, dv, dv_neg m]; grind
theorem dv_top {B : Int} : ∀ m : Nat, dv B (fun _ => B - 1) m = B ^ m - 1
  | 0 => by simp [dv]
  | m + 1 => by rw [dv, dv_top m, Int.pow_succ]; grind
theorem dv_zero {B : Int} : ∀ m : Nat, dv B (fun _ => 0) m = 0
  | 0 => by simp [dv]
  | m + 1 => by rw [dv, dv_zero m]; grind
theorem dv_bd {B : Int} {x : Nat → Int} (hB : 1 ≤ B) : ∀ {m : Nat}, (∀ k, k < m → 0 ≤ x k ∧ x k < B) → 0 ≤ dv B x m ∧ dv B x m < B ^ m
  | 0, _ => by simp [dv]
  | m + 1, h => by
    obtain ⟨a, b⟩ := dv_bd hB (m := m) (fun k hk => h k (by omega))
    obtain ⟨c, d⟩ := h m (by omega)
    have p : 0 < B ^ m := Int.pow_pos (by omega)
    have q1 : 0 ≤ x m * B ^ m := Int.mul_nonneg c (by omega)
    have q2 : (x m + 1) * B ^ m ≤ B * B ^ m := Int.mul_le_mul_of_nonneg_right (by omega) (by omega)
    rw [Int.add_mul, Int.one_mul] at q2
    rw [dv, Int.pow_succ, Int.mul_comm (B ^ m) B]
    exact ⟨by omega, by omega⟩
/-- the digits of two numbers compared from the highest -/
theorem dv_lt {B : Int} {x y : Nat → Int} {i : Nat} (hB : 1 ≤ B) (hi : x i < y i) : ∀ {m : Nat}, i < m → (∀ k, k < m → 0 ≤ x k ∧ x k < B) → (∀ k, k < m → 0 ≤ y k ∧ y k < B) → (∀ k, i < k → k < m → x k = y k) → dv B x m < dv B y m
  | 0, h, _, _, _ => by omega
  | m + 1, h, hx, hy, e => by
    rw [dv, dv]
    by_cases c : i = m
    · subst c
      have a := dv_bd hB (m := i) (fun k hk => hx k (by omega))
      have b := dv_bd hB (m := i) (fun k hk => hy k (by omega))
      have p : 0 < B ^ i := Int.pow_pos (by omega)
      have q2 : (x i + 1) * B ^ i ≤ y i * B ^ i := Int.mul_le_mul_of_nonneg_right (by omega) (by omega)
      rw [Int.add_mul, Int.one_mul] at q2
      omega
    · have := dv_lt hB hi (m := m) (by omega) (fun k hk => hx k (by omega)) (fun k hk => hy k (by omega)) (fun k a b => e k a (by omega))
      rw [e m (by omega) (by omega)]
      omega
end B2a
section B2b
/-- a word as a number from 0 -/
def uu (x : Int32) : Int := (x.toBitVec.toNat : Int)
theorem uu_bd (x : Int32) : 0 ≤ uu x ∧ uu x < 4294967296 := by
  have := x.toBitVec.isLt
  unfold uu
  omega
theorem uu_I (n : Nat) (h : n < 4294967296) : uu (I n) = n := by
  unfold uu
  rw [I_natm, Nat.mod_eq_of_lt h]
theorem uu_w1 (x : Int32) : x.toInt64 &&& 4294967295 = J (uu x) := by
  unfold uu
  have lt := x.toBitVec.isLt
  apply J_by (by omega)
  rw [Int64.toBitVec_and, Int32.toBitVec_toInt64, show (4294967295 : Int64).toBitVec = BitVec.ofNat 64 (2 ^ 32 - 1) from rfl, BitVec.toNat_and]
  apply Nat.eq_of_testBit_eq
  intro i
  rw [Nat.testBit_and, BitVec.toNat_ofNat, Nat.mod_eq_of_lt (by omega), Nat.testBit_two_pow_sub_one]
  have e1 : ((x.toBitVec.signExtend 64).toNat).testBit i = (x.toBitVec.signExtend 64).getLsbD i := rfl
  rw [e1, BitVec.getLsbD_signExtend]
  by_cases c : i < 32
  · rw [if_pos c, decide_eq_true c, decide_eq_true (by omega), Bool.and_true, Bool.true_and]
    rfl
  · rw [decide_eq_false c, Bool.and_false]
    have : 2 ^ 32 ≤ 2 ^ i := Nat.pow_le_pow_right (by omega) (by omega)
    exact (Nat.testBit_lt_two_pow (by omega)).symm
theorem uu_w2 {n : Nat} (h : n < 9223372036854775808) : uu (J n).toInt32 = ((n % 4294967296 : Nat) : Int) := by
  unfold uu
  rw [Int64.toBitVec_toInt32, BitVec.signExtend_eq_setWidth_of_le _ (by omega), BitVec.toNat_setWidth, J_nat h]
theorem uu_w3 {n : Nat} (h : n < 9223372036854775808) : ((J n).toUInt64 >>> ((32 : Int32).toInt64.toUInt64 &&& Int64.toUInt64 63)).toInt64 = J ((n / 4294967296 : Nat) : Int) := by
  have l : n / 4294967296 ≤ n := Nat.div_le_self _ _
  apply J_by (by omega)
  rw [UInt64.toBitVec_toInt64]
  show ((J n).toUInt64 >>> ((32 : Int32).toInt64.toUInt64 &&& Int64.toUInt64 63)).toNat = _
  rw [UInt64.toNat_shiftRight]
  have e : ((32 : Int32).toInt64.toUInt64 &&& Int64.toUInt64 63).toNat % 64 = 32 := by decide
  have e2 : (J n).toUInt64.toNat = n := J_nat h
  rw [e, e2, Nat.shiftRight_eq_div_pow]
theorem uu_not (x : Int32) : uu (x ^^^ -1) = 4294967295 - uu x := by
  unfold uu
  have lt := x.toBitVec.isLt
  have : (x ^^^ -1).toBitVec = ~~~ x.toBitVec := by
    rw [Int32.toBitVec_xor, show (-1 : Int32).toBitVec = BitVec.allOnes 32 from rfl, BitVec.xor_allOnes]
  rw [this, BitVec.toNat_not]
  omega
theorem uu_eq {x y : Int32} (h : uu x = uu y) : x = y := by
  unfold uu at h
  exact Int32.toBitVec_inj.mp (BitVec.eq_of_toNat_eq (by omega))
theorem uu_0 (x : Int32) : (x = 0) = (uu x = 0) := by
  have : uu 0 = 0 := rfl
  exact propext ⟨fun h => by rw [h, this], fun h => uu_eq (by rw [h, this])⟩
theorem uu_sg (x : Int32) : (0 ≤ x) = (uu x < 2147483648) := by
  rw [Int32.le_iff_toInt_le, show (0 : Int32).toInt = 0 from rfl]
  have h := BitVec.toInt_eq_toNat_cond x.toBitVec
  have lt := x.toBitVec.isLt
  have h2 : x.toInt = x.toBitVec.toInt := rfl
  unfold uu
  rw [h2, h]
  by_cases c : 2 * x.toBitVec.toNat < 2 ^ 32
  · rw [if_pos c]
    exact propext ⟨fun _ => by omega, fun _ => by omega⟩
  · rw [if_neg c]
    exact propext ⟨fun _ => by omega, fun _ => by omega⟩
theorem uu_b0 (x : Int32) : (x &&& 1 = 0) = (uu x % 2 = 0) := by
  rw [uu_0]
  unfold uu
  rw [Int32.toBitVec_and, BitVec.toNat_and]
  have e : x.toBitVec.toNat &&& (Int32.toBitVec 1).toNat = x.toBitVec.toNat % 2 := Nat.and_one_is_mod _
  rw [e]
  exact propext ⟨fun q => by omega, fun q => by omega⟩
theorem uu_or2 (x y : Int32) : ((x ||| y) &&& 1 = 0) = (uu x % 2 = 0 ∧ uu y % 2 = 0) := by
  rw [uu_b0]
  unfold uu
  rw [Int32.toBitVec_or, BitVec.toNat_or]
  have h : (x.toBitVec.toNat ||| y.toBitVec.toNat) % 2 = 0 ↔ x.toBitVec.toNat % 2 = 0 ∧ y.toBitVec.toNat % 2 = 0 := by
    have a := Nat.testBit_or x.toBitVec.toNat y.toBitVec.toNat 0
    simp only [Nat.testBit_zero] at a
    generalize x.toBitVec.toNat = u at *
    generalize y.toBitVec.toNat = v at *
    generalize u ||| v = t at *
    by_cases a1 : u % 2 = 1 <;> by_cases a2 : v % 2 = 1 <;> simp [a1, a2] at a <;> omega
  exact propext ⟨fun q => by omega, fun q => by omega⟩
end B2b
