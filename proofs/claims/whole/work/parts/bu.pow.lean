/-! RESTS BY PRIMES: powers. -/
section BUa
def pQ (k : Nat) : Nat := if k = 0 then 1000003 else if k = 1 then 1000033 else if k = 2 then 1000037 else 1000039
theorem pQ_b (k : Nat) : 1000003 ≤ pQ k ∧ pQ k ≤ 1000039 := by
  unfold pQ
  by_cases a : k = 0
  · rw [if_pos a]; omega
  · rw [if_neg a]
    by_cases b : k = 1
    · rw [if_pos b]; omega
    · rw [if_neg b]
      by_cases c : k = 2
      · rw [if_pos c]; omega
      · rw [if_neg c]; omega
theorem pQ_tf : ∀ k : Fin 4, v_tf v_T2 k.val = I (pQ k.val : Int) := by decide +kernel
/-- a power's rest -/
def pwr (x e p : Nat) : Nat := x ^ e % p
theorem pwr_0 (x p : Nat) : pwr x 0 p = 1 % p := rfl
theorem pwr_lt {x e p : Nat} (hp : 0 < p) : pwr x e p < p := Nat.mod_lt _ hp
theorem pw_sq (r s e p : Nat) : (r * s ^ e) % p = if e % 2 = 1 then ((r * s % p) * (s * s % p) ^ (e / 2)) % p else (r * (s * s % p) ^ (e / 2)) % p := by
  have h2 : e = 2 * (e / 2) + e % 2 := by omega
  have sq : (s * s) ^ (e / 2) = s ^ (2 * (e / 2)) := by rw [← Nat.pow_two, ← Nat.pow_mul]
  by_cases c : e % 2 = 1
  · rw [if_pos c]
    have e1 : s ^ e = s * (s * s) ^ (e / 2) := by
      rw [sq]
      conv => lhs; rw [h2, c, Nat.pow_succ]
      exact Nat.mul_comm _ _
    rw [e1, ← Nat.mul_assoc]
    simp [Nat.mul_mod, Nat.pow_mod]
  · rw [if_neg c]
    have e1 : s ^ e = (s * s) ^ (e / 2) := by
      rw [sq]
      conv => lhs; rw [h2]
      rw [show e % 2 = 0 by omega, Nat.add_zero]
    rw [e1]
    simp [Nat.mul_mod, Nat.pow_mod]
end BUa
section BUb
variable {sh : List Sh} {f : Nat} {S : St}
theorem J_tdiv {a b : Int} (ha : -9223372036854775808 ≤ a ∧ a < 9223372036854775808) (hb : 0 < b ∧ b < 9223372036854775808) : J a / J b = J (a.tdiv b) := by
  have k : -9223372036854775808 ≤ a.tdiv b ∧ a.tdiv b < 9223372036854775808 := by
    have h1 : (a.tdiv b).natAbs ≤ a.natAbs := by
      rw [Int.natAbs_tdiv]
      exact Nat.div_le_self _ _
    by_cases n : 0 ≤ a
    · omega
    · have : a.tdiv b ≤ 0 := by
        have := Int.tdiv_nonneg (a := -a) (b := b) (by omega) (by omega)
        rw [Int.neg_tdiv] at this
        omega
      omega
  rw [← Int64.toInt_inj, Int64.toInt_div, J_toInt ha, J_toInt (by omega), J_toInt k]
  exact Int.bmod_eq_of_le (by omega) (by omega)
theorem tm_cases (a : Int) {b : Int} (hb : 0 < b) : (0 ≤ a ∧ a - a.tdiv b * b = a % b) ∨ (a < 0 ∧ a - a.tdiv b * b = 0 ∧ a % b = 0) ∨ (a < 0 ∧ a - a.tdiv b * b < 0 ∧ -b < a - a.tdiv b * b ∧ a % b = a - a.tdiv b * b + b) := by
  by_cases n : 0 ≤ a
  · left
    refine ⟨n, ?_⟩
    rw [Int.tdiv_eq_ediv_of_nonneg n, Int.emod_def, Int.mul_comm]
  · right
    have e1 : a.tdiv b = -((-a) / b) := by
      rw [← Int.neg_neg a, Int.neg_tdiv, Int.tdiv_eq_ediv_of_nonneg (by omega), Int.neg_neg]
    have e2 := Int.emod_def (-a) b
    have r0 := Int.emod_nonneg (-a) (b := b) (by omega)
    have r1 := Int.emod_lt_of_pos (-a) hb
    have e3 : a - a.tdiv b * b = -((-a) % b) := by
      rw [e1, e2, Int.neg_mul, Int.mul_comm b]
      omega
    rw [e3]
    have e4 : a = -((-a) % b) + -((-a) / b) * b := by
      rw [e2, Int.neg_mul, Int.mul_comm b]
      omega
    by_cases z : (-a) % b = 0
    · left
      refine ⟨by omega, by omega, ?_⟩
      rw [e4, Int.add_mul_emod_self_right, z]
      rfl
    · right
      refine ⟨by omega, by omega, by omega, ?_⟩
      have e5 : a = (-((-a) % b) + b) + (-((-a) / b) - 1) * b := by
        rw [Int.sub_mul, Int.one_mul]
        omega
      conv => lhs; rw [e5, Int.add_mul_emod_self_right]
      exact Int.emod_eq_of_lt (by omega) (by omega)
theorem xor_sg64 (z : Int) (hz : -9223372036854775808 ≤ z ∧ z < 9223372036854775808) {p : Int} (hp : 0 < p ∧ p < 9223372036854775808) : (0 ≤ lg_cmp (J z ^^^ J p) 0) = (0 ≤ z) := by
  have m : (J z ^^^ J p).toBitVec.msb = ((J z).toBitVec.msb ^^ (J p).toBitVec.msb) := by
    rw [Int64.toBitVec_xor, BitVec.msb_xor]
  have a : ∀ {z : Int}, -9223372036854775808 ≤ z ∧ z < 9223372036854775808 → (J z).toBitVec.msb = decide (z < 0) := fun {z} hz => by
    rw [BitVec.msb_eq_toInt]
    have : (J z).toBitVec.toInt = z := J_toInt hz
    rw [this]
  have b : (J z ^^^ J p).toBitVec.msb = decide ((J z ^^^ J p).toInt < 0) := BitVec.msb_eq_toInt
  rw [a hz, a (by omega), b, decide_eq_false (show ¬ p < 0 by omega), Bool.xor_false, decide_eq_decide] at m
  have bd := J_bd (J z ^^^ J p)
  have l := (lgz (a := (J z ^^^ J p).toInt) (c := 0) bd (by omega)).1
  rw [← J_of] at l
  rw [show (0 : Int64) = J 0 from rfl, l]
  exact propext ⟨fun h => by omega, fun h => by omega⟩
theorem c_fmod {a p : Int} (ha : -9223372036854775808 ≤ a ∧ a < 9223372036854775808) (hp : 0 < p ∧ p < 2147483648) : F_J9_floorMod_f86c9 sh f S (J a) (J p) = some (J (a % p)) := by
  have z := xor_sg64 a ha (p := p) (by omega)
  unfold F_J9_floorMod_f86c9
  rw [if_neg (show ¬ J p = 0 by rw [show (0 : Int64) = J 0 from rfl, J_eq (by omega) (by omega)]; omega), J_tdiv ha (by omega), J_mul, J_sub]
  simp only [bnd, z]
  rcases tm_cases a hp.1 with ⟨h1, h2⟩ | ⟨h1, h2, h3⟩ | ⟨h1, h2, h3, h4⟩
  · rw [if_pos h1, h2]
  · rw [if_neg (by omega), h2, if_pos (by decide), h3]
  · rw [if_neg (by omega), show (0 : Int64) = J 0 from rfl]
    simp only [(lgz (a := a - a.tdiv p * p) (c := 0) (by omega) (by omega)).2.2.2]
    rw [if_neg (by omega), J_add, h4]
theorem r_mod {a p : Int} (ha : -9223372036854775808 ≤ a ∧ a < 9223372036854775808) (hp : 0 < p ∧ p < 2147483648) : F_X12_mod sh f S (J a) (I p) = some (I (a % p)) := by
  have t32 : ∀ z : Int, 0 ≤ z ∧ z < 2147483648 → (J z).toInt32 = I z := fun z hz => by
    obtain ⟨n, rfl⟩ : ∃ n : Nat, z = n := ⟨z.toNat, by omega⟩
    exact J_to32 (by omega)
  have r0 := Int.emod_nonneg a (b := p) (by omega)
  have r1 := Int.emod_lt_of_pos a hp.1
  unfold F_X12_mod
  rw [J_I (by omega), if_neg (show ¬ J p = 0 by rw [show (0 : Int64) = J 0 from rfl, J_eq (by omega) (by omega)]; omega), J_tdiv ha (by omega), J_mul, J_sub, show (0 : Int64) = J 0 from rfl]
  simp only [bnd]
  rcases tm_cases a hp.1 with ⟨h1, h2⟩ | ⟨h1, h2, h3⟩ | ⟨h1, h2, h3, h4⟩
  · rw [h2]
    simp only [(lgz (a := a % p) (c := 0) (by omega) (by omega)).1]
    rw [if_pos r0, t32 _ (by omega)]
  · rw [h2, if_pos (by decide), h3]
    rfl
  · simp only [(lgz (a := a - a.tdiv p * p) (c := 0) (by omega) (by omega)).1]
    rw [if_neg (by omega), J_add, ← h4, t32 _ (by omega)]
theorem c_pwL {p : Nat} (hp : 2 ≤ p ∧ p ≤ 1000039) (x : Int64) : ∀ (i nf e r s : Nat), i < nf → e < 2 ^ i → e < 2147483648 → r < p → s < p → F_X7_inverse_L25 sh f S x (J p) nf (J r) (J s) (J e) = some (J ((r * s ^ e) % p : Nat)) := by
  intro i
  induction i with
  | zero =>
    intro nf e r s hn he h3 hr hs
    obtain ⟨nf, rfl⟩ : ∃ e, nf = e + 1 := ⟨nf - 1, by omega⟩
    have : e = 0 := by simp at he; exact he
    subst this
    rw [F_X7_inverse_L25, if_pos (by decide), Nat.pow_zero, Nat.mul_one, Nat.mod_eq_of_lt hr]
  | succ i ih =>
    intro nf e r s hn he h3 hr hs
    obtain ⟨nf, rfl⟩ : ∃ e, nf = e + 1 := ⟨nf - 1, by omega⟩
    by_cases e0 : e = 0
    · subst e0
      rw [F_X7_inverse_L25, if_pos (by decide), Nat.pow_zero, Nat.mul_one, Nat.mod_eq_of_lt hr]
    · have l1 := (lgz (a := (e : Int)) (c := 0) (by omega) (by omega)).2.1
      have an : J (e : Int) &&& 1 = J ((e % 2 : Nat) : Int) := by
        have := J_and (a := e) (b := 1) (by omega) (by omega)
        rw [Nat.and_one_is_mod] at this
        exact this
      have l2 := (lgz (a := ((e % 2 : Nat) : Int)) (c := 0) (by omega) (by omega)).2.2.2
      have shr : J (e : Int) >>> ((1 : Int32).toInt64 &&& 63) = J ((e / 2 : Nat) : Int) := by
        have := J_shr (a := e) (k := 1) (by omega) (by omega)
        rw [Nat.pow_one] at this
        exact this
      have ss : s * s ≤ 1000039 * 1000039 := Nat.mul_le_mul (by omega) (by omega)
      have rs : r * s ≤ 1000039 * 1000039 := Nat.mul_le_mul (by omega) (by omega)
      have pz : ¬ J (p : Int) = 0 := by rw [show (0 : Int64) = J 0 from rfl, J_eq (by omega) (by omega)]; omega
      have m1 : J (s : Int) * J (s : Int) - J (s : Int) * J (s : Int) / J (p : Int) * J (p : Int) = J ((s * s % p : Nat) : Int) := by
        rw [J_mul, ← Int.natCast_mul, J_rem (by omega) (by omega)]
        rfl
      have m2 : J (r : Int) * J (s : Int) - J (r : Int) * J (s : Int) / J (p : Int) * J (p : Int) = J ((r * s % p : Nat) : Int) := by
        rw [J_mul, ← Int.natCast_mul, J_rem (by omega) (by omega)]
        rfl
      rw [Nat.pow_succ] at he
      rw [F_X7_inverse_L25, an, shr, show (0 : Int64) = J 0 from rfl]
      simp only [l1, l2, if_neg (show ¬ (e : Int) ≤ 0 by omega), bnd]
      rw [← show (0 : Int64) = J 0 from rfl, if_neg pz, if_neg pz, if_neg pz, m1, m2, pw_sq r s e p]
      by_cases c : e % 2 = 1
      · rw [if_neg (by omega), if_pos c]
        exact ih nf (e / 2) (r * s % p) (s * s % p) (by omega) (by omega) (by omega) (Nat.mod_lt _ (by omega)) (Nat.mod_lt _ (by omega))
      · rw [if_pos (by omega), if_neg c]
        exact ih nf (e / 2) r (s * s % p) (by omega) (by omega) (by omega) hr (Nat.mod_lt _ (by omega))
theorem c_inv (hf : 1000 ≤ f) {p x : Nat} (hp : 2 ≤ p ∧ p ≤ 1000039) (hx : x < 9223372036854775808) : F_X7_inverse sh f S (J x) (J p) = some (J ((x ^ (p - 2)) % p : Nat)) := by
  have l := (lgz (a := (p : Int)) (c := 2) (by omega) (by omega)).1
  have pz : ¬ J (p : Int) = 0 := by rw [show (0 : Int64) = J 0 from rfl, J_eq (by omega) (by omega)]; omega
  have := c_pwL (sh := sh) (f := f) (S := S) hp (J x) 20 f (p - 2) 1 (x % p) (by omega) (by omega) (by omega) (by omega) (Nat.mod_lt _ (by omega))
  rw [Nat.one_mul, ← Nat.pow_mod] at this
  unfold F_X7_inverse
  rw [show (2 : Int64) = J 2 from rfl]
  simp only [l]
  rw [if_pos (by omega), if_neg pz, J_rem (by omega) (by omega), J_sub]
  simp only [bnd]
  rw [show (p : Int) - 2 = ((p - 2 : Nat) : Int) by omega]
  exact this
theorem r_pwL {p : Nat} (hp : 2 ≤ p ∧ p ≤ 1000039) (x : Int32) : ∀ (i nf e r s : Nat), i < nf → e < 2 ^ i → e < 2147483648 → r < p → s < p → F_X12_inverse_L11 sh f S x (I p) nf (J r) (J s) (I e) = some (I ((r * s ^ e) % p : Nat)) := by
  intro i
  induction i with
  | zero =>
    intro nf e r s hn he h3 hr hs
    obtain ⟨nf, rfl⟩ : ∃ e, nf = e + 1 := ⟨nf - 1, by omega⟩
    have : e = 0 := by simp at he; exact he
    subst this
    rw [F_X12_inverse_L11, if_pos (by decide), Nat.pow_zero, Nat.mul_one, Nat.mod_eq_of_lt hr, J_to32 (by omega)]
  | succ i ih =>
    intro nf e r s hn he h3 hr hs
    obtain ⟨nf, rfl⟩ : ∃ e, nf = e + 1 := ⟨nf - 1, by omega⟩
    by_cases e0 : e = 0
    · subst e0
      rw [F_X12_inverse_L11, if_pos (by decide), Nat.pow_zero, Nat.mul_one, Nat.mod_eq_of_lt hr, J_to32 (by omega)]
    · have an : I (e : Int) &&& 1 = I ((e % 2 : Nat) : Int) := by
        have := I_and (a := e) (b := 1) (by omega) (by omega)
        rw [Nat.and_one_is_mod] at this
        exact this
      have shr : I (e : Int) >>> ((1 : Int32) &&& 31) = I ((e / 2 : Nat) : Int) := by
        have := I_shr (a := e) (k := 1) (by omega) (by omega)
        rw [Nat.pow_one] at this
        exact this
      have ss : s * s ≤ 1000039 * 1000039 := Nat.mul_le_mul (by omega) (by omega)
      have rs : r * s ≤ 1000039 * 1000039 := Nat.mul_le_mul (by omega) (by omega)
      have pi : (I (p : Int)).toInt64 = J (p : Int) := J_I (by omega)
      have pz : ¬ J (p : Int) = 0 := by rw [show (0 : Int64) = J 0 from rfl, J_eq (by omega) (by omega)]; omega
      have m1 : J (s : Int) * J (s : Int) - J (s : Int) * J (s : Int) / J (p : Int) * J (p : Int) = J ((s * s % p : Nat) : Int) := by
        rw [J_mul, ← Int.natCast_mul, J_rem (by omega) (by omega)]
        rfl
      have m2 : J (r : Int) * J (s : Int) - J (r : Int) * J (s : Int) / J (p : Int) * J (p : Int) = J ((r * s % p : Nat) : Int) := by
        rw [J_mul, ← Int.natCast_mul, J_rem (by omega) (by omega)]
        rfl
      rw [Nat.pow_succ] at he
      rw [F_X12_inverse_L11, if_neg (by rw [show (0 : Int32) = I ((0 : Nat) : Int) from rfl, I_leN (by omega) (by omega)]; omega), an, shr, pi]
      simp only [bnd, if_neg pz, m1, m2]
      rw [pw_sq r s e p, show (1 : Int32) = I ((1 : Nat) : Int) from rfl, ite_eqN (by omega) (by omega)]
      by_cases c : e % 2 = 1
      · rw [if_pos c, if_pos c]
        exact ih nf (e / 2) (r * s % p) (s * s % p) (by omega) (by omega) (by omega) (Nat.mod_lt _ (by omega)) (Nat.mod_lt _ (by omega))
      · rw [if_neg c, if_neg c]
        exact ih nf (e / 2) r (s * s % p) (by omega) (by omega) (by omega) hr (Nat.mod_lt _ (by omega))
theorem r_inv (hf : 1000 ≤ f) {p x : Nat} (hp : 2 ≤ p ∧ p ≤ 1000039) (hx : x < p) : F_X12_inverse sh f S (I x) (I p) = some (I ((x ^ (p - 2)) % p : Nat)) := by
  have := r_pwL (sh := sh) (f := f) (S := S) hp (I x) 20 f (p - 2) 1 x (by omega) (by omega) (by omega) (by omega) hx
  rw [Nat.one_mul] at this
  unfold F_X12_inverse
  simp only [bnd]
  rw [J_I (by omega), show (2 : Int32) = I 2 from rfl, I_sub, show (p : Int) - 2 = ((p - 2 : Nat) : Int) by omega]
  exact this
end BUb
