/-! MASKS of legs; rows as longs. -/
def mkb (p : Nat → Bool) : Nat → Nat
  | 0 => 0
  | m + 1 => mkb p m ||| (if p m = true then 2 ^ m else 0)
theorem mkb_tb (p : Nat → Bool) (i : Nat) : ∀ m, (mkb p m).testBit i = (decide (i < m) && p i)
  | 0 => by
    rw [mkb, Nat.zero_testBit, decide_eq_false (by omega), Bool.false_and]
  | m + 1 => by
    rw [mkb, Nat.testBit_or, mkb_tb p i m]
    by_cases c : i = m
    · subst c
      by_cases d : p i = true
      · rw [if_pos d, Nat.testBit_two_pow_self, d, Bool.or_true, decide_eq_true (by omega)]
        rfl
      · rw [if_neg d, Nat.zero_testBit, Bool.or_false, decide_eq_false (by omega), decide_eq_true (by omega), eq_false_of_ne_true d]
        rfl
    · have e : (if p m = true then 2 ^ m else 0).testBit i = false := by
        by_cases d : p m = true
        · rw [if_pos d, Nat.testBit_two_pow, decide_eq_false (fun h => c h.symm)]
        · rw [if_neg d, Nat.zero_testBit]
      rw [e, Bool.or_false]
      congr 1
      rw [decide_eq_decide]
      omega
theorem mkb_lt (p : Nat → Bool) (m : Nat) : mkb p m < 2 ^ m := by
  apply Nat.lt_pow_two_of_testBit
  intro i hi
  rw [mkb_tb, decide_eq_false (by omega), Bool.false_and]
theorem mkb_eq {p q : Nat → Bool} {m : Nat} (h : ∀ i, i < m → p i = q i) : mkb p m = mkb q m := by
  apply Nat.eq_of_testBit_eq
  intro i
  rw [mkb_tb, mkb_tb]
  by_cases c : i < m
  · rw [h i c]
  · rw [decide_eq_false c, Bool.false_and, Bool.false_and]
theorem tb_z {m i : Nat} : (m / 2 ^ i % 2 = 0) = (m.testBit i = false) := by
  rw [Nat.testBit_eq_decide_div_mod_eq, decide_eq_false_iff_not]
  exact propext ⟨fun h => by omega, fun h => by omega⟩
theorem pop_tb (m : Nat) : ∀ k, popN k m = (List.range k).countP (fun i => m.testBit i)
  | 0 => by rw [popN]; rfl
  | k + 1 => by
    rw [popN_succ, pop_tb m k, List.range_succ, List.countP_append, List.countP_singleton, Nat.testBit_eq_decide_div_mod_eq]
    congr 1
    by_cases c : m / 2 ^ k % 2 = 1
    · rw [decide_eq_true c, if_pos rfl, c]
    · rw [decide_eq_false c, if_neg (by simp)]
      omega
theorem tz_tb : ∀ (k m i : Nat), i < k → m.testBit i = true → (∀ j, j < i → m.testBit j = false) → tzN k m = i
  | 0, _, i, h, _, _ => by omega
  | k + 1, m, 0, _, h1, _ => by
    rw [Nat.testBit_zero, decide_eq_true_eq] at h1
    rw [tzN, if_pos h1]
  | k + 1, m, i + 1, h, h1, h2 => by
    have z := h2 0 (by omega)
    rw [Nat.testBit_zero, decide_eq_false_iff_not] at z
    rw [Nat.testBit_succ] at h1
    have ih := tz_tb k (m / 2) i (by omega) h1 (fun j hj => by
      have := h2 (j + 1) (by omega)
      rw [Nat.testBit_succ] at this
      exact this)
    rw [tzN, if_neg z, ih]
    omega
theorem and_pred {m i : Nat} (h1 : m.testBit i = true) (h2 : ∀ j, j < i → m.testBit j = false) (j : Nat) : (m &&& (m - 1)).testBit j = (m.testBit j && decide (j ≠ i)) := by
  have e : m % 2 ^ (i + 1) = 2 ^ i := by
    apply Nat.eq_of_testBit_eq
    intro k
    rw [Nat.testBit_mod_two_pow, Nat.testBit_two_pow]
    by_cases c : k = i
    · subst c
      rw [h1, decide_eq_true (by omega), decide_eq_true rfl]
      rfl
    · rw [show decide (i = k) = false from decide_eq_false (fun h => c h.symm)]
      by_cases d : k < i
      · rw [h2 k d, Bool.and_false]
      · rw [decide_eq_false (by omega), Bool.false_and]
  have p : 0 < 2 ^ i := Nat.two_pow_pos i
  have q : 2 ^ (i + 1) = 2 * 2 ^ i := by rw [Nat.pow_succ, Nat.mul_comm]
  have m1 : m = 2 ^ (i + 1) * (m / 2 ^ (i + 1)) + 2 ^ i := by
    have := Nat.div_add_mod m (2 ^ (i + 1))
    omega
  have m2 : m - 1 = 2 ^ (i + 1) * (m / 2 ^ (i + 1)) + (2 ^ i - 1) := by omega
  generalize m / 2 ^ (i + 1) = h at m1 m2
  rw [Nat.testBit_and, m2, Nat.testBit_two_pow_mul_add _ (by omega), Nat.testBit_two_pow_sub_one]
  have m3 : m.testBit j = (if j < i + 1 then (2 ^ i).testBit j else h.testBit (j - (i + 1))) := by
    rw [m1, Nat.testBit_two_pow_mul_add _ (by omega)]
  rw [m3]
  by_cases c : j < i + 1
  · rw [if_pos c, if_pos c, Nat.testBit_two_pow]
    by_cases d : i = j
    · subst d
      simp
    · rw [decide_eq_false d]
      rfl
  · rw [if_neg c, if_neg c, decide_eq_true (show j ≠ i by omega), Bool.and_true, Bool.and_self]
theorem I_andn {a b : Nat} (ha : a < 2147483648) (hb : b < 2147483648) : I a &&& (I b ^^^ (-1)) = I ((a &&& (b ^^^ 4294967295) : Nat) : Int) := by
  apply I_by (Nat.lt_of_le_of_lt Nat.and_le_left ha)
  rw [Int32.toBitVec_and, BitVec.toNat_and, Int32.toBitVec_xor, BitVec.toNat_xor, I_nat ha, I_nat hb]
  rfl
theorem andn_tb {a b i : Nat} (ha : a < 2147483648) : (a &&& (b ^^^ 4294967295)).testBit i = (a.testBit i && !b.testBit i) := by
  rw [Nat.testBit_and, Nat.testBit_xor, show (4294967295 : Nat) = 2 ^ 32 - 1 from rfl, Nat.testBit_two_pow_sub_one]
  by_cases c : i < 32
  · rw [decide_eq_true c, Bool.xor_true]
  · have q : 2 ^ 31 ≤ 2 ^ i := Nat.pow_le_pow_right (by omega) (by omega)
    have : a.testBit i = false := Nat.testBit_lt_two_pow (by omega)
    rw [this, Bool.false_and, Bool.false_and]
theorem J_by {x : Int64} {a : Nat} (ha : a < 9223372036854775808) (h : x.toBitVec.toNat = a) : x = J a := by
  apply Int64.toBitVec_inj.mp
  apply BitVec.eq_of_toNat_eq
  rw [h, J_nat ha]
theorem J_or {a b : Nat} (ha : a < 9223372036854775808) (hb : b < 9223372036854775808) : J a ||| J b = J ((a ||| b : Nat) : Int) := by
  apply J_by (Nat.or_lt_two_pow (n := 63) ha hb)
  rw [Int64.toBitVec_or, BitVec.toNat_or, J_nat ha, J_nat hb]
theorem J_and {a b : Nat} (ha : a < 9223372036854775808) (hb : b < 9223372036854775808) : J a &&& J b = J ((a &&& b : Nat) : Int) := by
  apply J_by (Nat.lt_of_le_of_lt Nat.and_le_left ha)
  rw [Int64.toBitVec_and, BitVec.toNat_and, J_nat ha, J_nat hb]
theorem sh_c64 : ∀ k : Fin 64, (J (k.val : Int) &&& 63).toBitVec.smod 64 = BitVec.ofNat 64 k.val := by decide +kernel
theorem J_shl {a k : Nat} (hk : k < 63) (ha : a * 2 ^ k < 9223372036854775808) : J a <<< (J k &&& 63) = J ((a * 2 ^ k : Nat) : Int) := by
  apply J_by ha
  have p : 0 < 2 ^ k := Nat.two_pow_pos k
  have a1 : a ≤ a * 2 ^ k := Nat.le_mul_of_pos_right a p
  rw [Int64.toBitVec_shiftLeft, sh_c64 ⟨k, by omega⟩]
  show ((J a).toBitVec <<< (BitVec.ofNat 64 k)).toNat = _
  rw [BitVec.shiftLeft_eq', BitVec.toNat_shiftLeft, J_nat (by omega), BitVec.toNat_ofNat, Nat.mod_eq_of_lt (show k < 2 ^ 64 by omega), Nat.shiftLeft_eq, Nat.mod_eq_of_lt (by omega)]
theorem J_shr {a k : Nat} (hk : k < 64) (ha : a < 9223372036854775808) : J a >>> (J k &&& 63) = J ((a / 2 ^ k : Nat) : Int) := by
  have key : ∀ d : Nat, d = a / 2 ^ k → J a >>> (J k &&& 63) = J (d : Int) := by
    intro d hd
    have h1 : d ≤ a := by rw [hd]; exact Nat.div_le_self _ _
    rw [← Int64.toInt_inj, J_toInt (by omega)]
    show (J a >>> (J k &&& 63)).toBitVec.toInt = _
    rw [Int64.toBitVec_shiftRight, sh_c64 ⟨k, hk⟩]
    show ((J a).toBitVec.sshiftRight (BitVec.ofNat 64 k).toNat).toInt = _
    rw [BitVec.toInt_sshiftRight, BitVec.toNat_ofNat, Nat.mod_eq_of_lt (show k < 2 ^ 64 by omega)]
    have h2 : (J a).toBitVec.toInt = (a : Int) := J_toInt (by omega)
    rw [h2, Int.shiftRight_eq_div_pow, hd]
    norm_cast
  exact key _ rfl
theorem I_natm (n : Nat) : (I n).toBitVec.toNat = n % 4294967296 := by
  show (BitVec.ofInt 32 (n : Int)).toNat = _
  rw [BitVec.toNat_ofInt]
  omega
theorem I_and15 (n : Nat) : I n &&& 15 = I ((n % 16 : Nat) : Int) := by
  apply I_by (by omega)
  rw [Int32.toBitVec_and, BitVec.toNat_and, I_natm]
  show n % 4294967296 &&& 15 = n % 16
  rw [show (15 : Nat) = 2 ^ 4 - 1 from rfl, Nat.and_two_pow_sub_one_eq_mod]
  omega
/-- a row's digits; legs that aren't joined have 0 -/
def zz (π : Nat → Nat) (i : Nat) : Nat := if π i < 16 then π i else 0
def e12 (π : Nat → Nat) : Nat := eN (zz π) 12
theorem zz_lt (π : Nat → Nat) (i : Nat) : zz π i < 16 := by
  unfold zz
  by_cases c : π i < 16
  · rw [if_pos c]; exact c
  · rw [if_neg c]; omega
theorem e12_lt (π : Nat → Nat) : e12 π < 281474976710656 := eN_bd (m := 12) (fun k _ => zz_lt π k)
section P9d
variable {sh : List Sh} {f : Nat} {S : St}
theorem c_partnerIn {π : Nat → Nat} {i : Nat} (hi : i < 12) : F_X4_partnerIn sh f S (J (e12 π)) (I i) = some (I (zz π i)) := by
  have lt := e12_lt π
  unfold F_X4_partnerIn
  have e1 : (4 : Int32) * ((11 : Int32) - I i) = I ((4 * (11 - i) : Nat) : Int) := by
    rw [show (4 : Int32) = I 4 from rfl, show (11 : Int32) = I 11 from rfl, I_sub, I_mul]
    congr 1
    omega
  have e2 : (J (e12 π) >>> (J ((4 * (11 - i) : Nat) : Int) &&& 63)) = J ((e12 π / 2 ^ (4 * (11 - i)) : Nat) : Int) := J_shr (by omega) (by omega)
  have e3 : (J ((e12 π / 2 ^ (4 * (11 - i)) : Nat) : Int)).toInt32 = I ((e12 π / 2 ^ (4 * (11 - i)) : Nat) : Int) := Int64.toInt32_ofInt
  rw [e1, J_I (by omega), e2, e3, I_and15, Nat.pow_mul, show 2 ^ 4 = 16 from rfl]
  have := eN_dig (π := zz π) (i := i) (m := 12) hi (fun k _ => zz_lt π k)
  rw [show 12 - 1 - i = 11 - i by omega] at this
  rw [show e12 π / 16 ^ (11 - i) % 16 = zz π i from this]
theorem c_inRow {i j : Nat} (hi : i < 12) (hj : j < 16) : F_X4_inRow sh f S (I i) (I j) = some (J ((j * 16 ^ (11 - i) : Nat) : Int)) := by
  unfold F_X4_inRow
  have e1 : (4 : Int32) * ((11 : Int32) - I i) = I ((4 * (11 - i) : Nat) : Int) := by
    rw [show (4 : Int32) = I 4 from rfl, show (11 : Int32) = I 11 from rfl, I_sub, I_mul]
    congr 1
    omega
  have b : 16 ^ (11 - i) ≤ 16 ^ 11 := Nat.pow_le_pow_right (by omega) (by omega)
  have b2 : j * 16 ^ (11 - i) ≤ 15 * 16 ^ 11 := Nat.mul_le_mul (by omega) b
  have e2 : J (j : Int) <<< (J ((4 * (11 - i) : Nat) : Int) &&& 63) = J ((j * 2 ^ (4 * (11 - i)) : Nat) : Int) := J_shl (by omega) (by rw [Nat.pow_mul, show 2 ^ 4 = 16 from rfl]; omega)
  rw [e1, J_I (by omega), J_I (by omega), e2, Nat.pow_mul, show 2 ^ 4 = 16 from rfl]
end P9d
theorem eN_up {h : Nat → Nat} {i j : Nat} (hz : h i = 0) : ∀ {m : Nat}, i < m → eN (up1 h i j) m = eN h m + j * 16 ^ (m - 1 - i)
  | 0, hm => by omega
  | m + 1, hm => by
    rw [eN, eN]
    by_cases c : i = m
    · subst c
      rw [up1_self, hz, show i + 1 - 1 - i = 0 by omega, eN_cg (m := i) (π := up1 h i j) (π' := h) (fun k hk => up1_ne _ _ (by omega))]
      omega
    · have ih := eN_up (j := j) hz (m := m) (by omega)
      rw [ih, up1_ne _ _ (by omega), show m + 1 - 1 - i = (m - 1 - i) + 1 by omega, Nat.pow_succ]
      have : 16 * (j * 16 ^ (m - 1 - i)) = j * (16 ^ (m - 1 - i) * 16) := by rw [Nat.mul_comm, Nat.mul_assoc]
      omega
theorem or_nib {a j k : Nat} (hj : j < 16) (hz : a / 16 ^ k % 16 = 0) : a ||| j * 16 ^ k = a + j * 16 ^ k := by
  have p16 : (16 : Nat) ^ k = 2 ^ (4 * k) := by rw [Nat.pow_mul]
  have p16' : (16 : Nat) ^ k * 16 = 2 ^ (4 * k + 4) := by rw [Nat.pow_add, ← p16]
  have pos : 0 < 16 ^ k := Nat.pow_pos (by omega)
  have d1 := Nat.div_add_mod a (16 ^ k)
  have l1 := Nat.mod_lt a pos
  have d2 : a / 16 ^ k = 16 * (a / 16 ^ k / 16) := by omega
  generalize hh : a / 16 ^ k / 16 = h at d2
  generalize hl : a % 16 ^ k = l at d1 l1
  have ea : a = 2 ^ (4 * k + 4) * h + l := by
    rw [← p16', Nat.mul_assoc, ← d2]
    omega
  have jl : j * 16 ^ k + l < 2 ^ (4 * k + 4) := by
    rw [← p16']
    have : j * 16 ^ k ≤ 15 * 16 ^ k := Nat.mul_le_mul_right _ (by omega)
    omega
  have x1 : j * 16 ^ k ||| l = j * 16 ^ k + l := by
    rw [p16, Nat.mul_comm, ← Nat.two_pow_add_eq_or_of_lt (by rw [← p16]; exact l1)]
  rw [ea, Nat.two_pow_add_eq_or_of_lt (b := l) (by omega), Nat.or_assoc, Nat.or_comm l, x1, ← Nat.two_pow_add_eq_or_of_lt jl, ← Nat.two_pow_add_eq_or_of_lt (b := l) (by omega)]
  omega
/-- a join more in a row -/
theorem e12_up {π : Nat → Nat} {i j : Nat} (hi : i < 12) (hj : j < 12) (hz : π i = 99) : e12 (up1 π i j) = e12 π ||| j * 16 ^ (11 - i) := by
  have z0 : zz π i = 0 := by
    unfold zz
    rw [hz, if_neg (by omega)]
  have e : zz (up1 π i j) = up1 (zz π) i j := by
    funext k
    unfold zz
    rw [up1_if, up1_if]
    by_cases c : k = i
    · rw [if_pos c, if_pos c, if_pos (by omega)]
    · rw [if_neg c, if_neg c]
  unfold e12
  have dg := eN_dig (π := zz π) (i := i) (m := 12) hi (fun k _ => zz_lt π k)
  rw [z0, show 12 - 1 - i = 11 - i by omega] at dg
  rw [e, eN_up z0 hi, show 12 - 1 - i = 11 - i by omega, or_nib (by omega) dg]
theorem eN_z {π : Nat → Nat} {L : Nat} (h : ∀ i, i < L → π i < 16) (o : ∀ i, L ≤ i → π i = 99) : ∀ d, eN (zz π) (L + d) = eN π L * 16 ^ d
  | 0 => by
    rw [Nat.add_zero, Nat.pow_zero, Nat.mul_one]
    exact eN_cg (fun i hi => by unfold zz; rw [if_pos (h i hi)])
  | d + 1 => by
    have ih := eN_z h o d
    have z : zz π (L + d) = 0 := by
      unfold zz
      rw [o _ (by omega), if_neg (by omega)]
    rw [show L + (d + 1) = L + d + 1 by omega, eN, ih, z, Nat.pow_succ, Nat.add_zero, Nat.mul_comm, Nat.mul_assoc]
theorem e12_le {π π' : Nat → Nat} {L : Nat} (hL : L ≤ 12) (h : ∀ i, i < L → π i < 16) (o : ∀ i, L ≤ i → π i = 99) (h' : ∀ i, i < L → π' i < 16) (o' : ∀ i, L ≤ i → π' i = 99) : (e12 π ≤ e12 π') = (eN π L ≤ eN π' L) ∧ (e12 π = e12 π') = (eN π L = eN π' L) := by
  have a := eN_z h o (12 - L)
  have b := eN_z h' o' (12 - L)
  rw [show L + (12 - L) = 12 by omega] at a b
  have p : 0 < 16 ^ (12 - L) := Nat.pow_pos (by omega)
  unfold e12
  rw [a, b]
  constructor
  · exact propext ⟨fun h => Nat.le_of_mul_le_mul_right h p, fun h => Nat.mul_le_mul_right _ h⟩
  · exact propext ⟨fun h => Nat.eq_of_mul_eq_mul_right p h, fun h => by rw [h]⟩
