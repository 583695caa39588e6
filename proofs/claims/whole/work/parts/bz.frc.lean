/-! THE FRACTION of both. -/
section BZa
def euc : Nat → Nat → Nat → Int → Int → Nat × Int
  | 0, _, b, _, d => (b, d)
  | n + 1, a, b, c, d => if b ≤ 500000000 then (b, d) else euc n b (a % b) d (c - (a / b : Nat) * d)
/-- what holds in Euclid's steps -/
def EU (R a b : Nat) (c d : Int) : Prop := b < a ∧ a ≤ R ∧ (0 ≤ d ∧ c ≤ 0 ∨ d ≤ 0 ∧ 0 ≤ c) ∧ d.natAbs * a + c.natAbs * b = R
theorem hlf {a b : Nat} (h : b < a) (hb : 0 < b) {n : Nat} (m : a * b < 2 ^ (n + 1)) : b * (a % b) < 2 ^ n ∧ a % b < b := by
  have r : a % b < b := Nat.mod_lt _ hb
  have e := Nat.div_add_mod a b
  have q : 1 ≤ a / b := Nat.div_pos (by omega) hb
  have q2 : b * 1 ≤ b * (a / b) := Nat.mul_le_mul_left _ q
  have s : 2 * (a % b) ≤ a := by omega
  have t : b * (2 * (a % b)) ≤ b * a := Nat.mul_le_mul_left _ s
  have u : b * (2 * (a % b)) = 2 * (b * (a % b)) := Nat.mul_left_comm _ _ _
  have v : b * a = a * b := Nat.mul_comm _ _
  rw [Nat.pow_succ] at m
  omega
theorem EU_st {R a b : Nat} {c d : Int} (h : EU R a b c d) (hb : 0 < b) : EU R b (a % b) d (c - (a / b : Nat) * d) := by
  obtain ⟨h1, h2, h3, h4⟩ := h
  have e := Nat.div_add_mod a b
  have ml := Nat.mod_lt a hb
  generalize hq : a / b = q at *
  generalize hr : a % b = r at *
  refine ⟨ml, by omega, ?_, ?_⟩
  · rcases h3 with ⟨x, y⟩ | ⟨x, y⟩
    · right
      have : 0 ≤ ((q : Nat) : Int) * d := Int.mul_nonneg (by omega) x
      omega
    · left
      have : 0 ≤ ((q : Nat) : Int) * (-d) := Int.mul_nonneg (by omega) (by omega)
      rw [Int.mul_neg] at this
      omega
  · have k : (c - (q : Nat) * d).natAbs = c.natAbs + q * d.natAbs := by
      have m : (((q : Nat) : Int) * d).natAbs = q * d.natAbs := by rw [Int.natAbs_mul]; rfl
      rcases h3 with ⟨x, y⟩ | ⟨x, y⟩
      · have : 0 ≤ ((q : Nat) : Int) * d := Int.mul_nonneg (by omega) x
        omega
      · have : 0 ≤ ((q : Nat) : Int) * (-d) := Int.mul_nonneg (by omega) (by omega)
        rw [Int.mul_neg] at this
        omega
    have e2 : d.natAbs * a = d.natAbs * (b * q) + d.natAbs * (r) := by rw [← Nat.mul_add, e]
    rw [k, Nat.add_mul]
    have e3 : q * d.natAbs * b = d.natAbs * (b * q) := by
      rw [Nat.mul_comm q, Nat.mul_assoc, Nat.mul_comm q]
    omega
theorem EU_d {R a b : Nat} {c d : Int} (h : EU R a b c d) : d.natAbs ≤ R := by
  obtain ⟨h1, h2, h3, h4⟩ := h
  have : d.natAbs * 1 ≤ d.natAbs * a := Nat.mul_le_mul_left _ (by omega)
  omega
theorem euc_b {R : Nat} : ∀ (n a b : Nat) (c d : Int), EU R a b c d → a * b < 2 ^ (n + 57) → (euc n a b c d).1 ≤ 500000000 ∧ (euc n a b c d).2.natAbs ≤ R
  | 0, a, b, c, d, h, m => by
    rw [euc]
    refine ⟨?_, EU_d h⟩
    by_cases z : b ≤ 500000000
    · exact z
    · have := Nat.mul_le_mul (show 500000001 ≤ a by have := h.1; omega) (show 500000001 ≤ b by omega)
      have p : (2 : Nat) ^ (0 + 57) = 144115188075855872 := by decide
      omega
  | n + 1, a, b, c, d, h, m => by
    rw [euc]
    by_cases z : b ≤ 500000000
    · rw [if_pos z]; exact ⟨z, EU_d h⟩
    · rw [if_neg z]
      exact euc_b n b (a % b) d _ (EU_st h (by omega)) (hlf h.1 (by omega) (by rw [show n + 57 + 1 = n + 1 + 57 by omega]; exact m)).1
end BZa
section BZb
variable {sh : List Sh} {f : Nat} {S : St}
theorem J_qr {a b : Nat} (ha : a < 9223372036854775808) (hb : 0 < b ∧ b < 9223372036854775808) : J a / J b = J ((a / b : Nat) : Int) ∧ J a - J ((a / b : Nat) : Int) * J b = J ((a % b : Nat) : Int) := by
  have e := Nat.div_add_mod a b
  refine ⟨?_, ?_⟩
  · rw [J_tdiv (by omega) (by omega)]
    rfl
  · rw [J_mul, J_sub, ← Int.natCast_mul, Nat.mul_comm]
    congr 1
    omega
theorem I_qr {a b : Nat} (ha : a < 2147483648) (hb : 0 < b ∧ b < 2147483648) : I a - I a / I b * I b = I ((a % b : Nat) : Int) := by
  have e := Nat.div_add_mod a b
  rw [I_div (by omega) (by omega), I_mul, I_sub, ← Int.natCast_ediv, ← Int.natCast_mul, Nat.mul_comm]
  congr 1
  omega
theorem J_z {b : Nat} (hb : 0 < b ∧ b < 9223372036854775808) : ¬ J b = 0 := by
  rw [show (0 : Int64) = J 0 from rfl, J_eq (by omega) (by omega)]; omega
theorem c_euc {R : Nat} (hR : R < 1152921504606846976) (t : Nat) : ∀ (n a b : Nat) (c d : Int) (l9 nf : Nat), EU R a b c d → a * b < 2 ^ (n + 57) → l9 + n ≤ 99 → n < nf → F_X7_findFraction_L44 sh f t nf S (J a) (J b) (J c) (J d) (I l9) = F_X7_findFraction_L101 sh f t S (J ((euc n a b c d).1 : Nat)) (J (euc n a b c d).2) := by
  intro n
  induction n with
  | zero =>
    intro a b c d l9 nf h m hl hn
    obtain ⟨nf, rfl⟩ : ∃ e, nf = e + 1 := ⟨nf - 1, by omega⟩
    have eb := (euc_b 0 a b c d h m).1
    rw [euc] at eb
    have bs := h.1
    have as := h.2.1
    have l0 := (lgz (a := (b : Int)) (c := 500000000) (by omega) (by omega)).2.1
    rw [F_X7_findFraction_L44, if_neg (by rw [show (100 : Int32) = I ((100 : Nat) : Int) from rfl, I_leN (by omega) (by omega)]; omega), show (500000000 : Int64) = J 500000000 from rfl]
    simp only [l0]
    rw [if_pos (by omega), euc]
  | succ n ih =>
    intro a b c d l9 nf h m hl hn
    obtain ⟨nf, rfl⟩ : ∃ e, nf = e + 1 := ⟨nf - 1, by omega⟩
    have bs := h.1
    have as := h.2.1
    have l0 := (lgz (a := (b : Int)) (c := 500000000) (by omega) (by omega)).2.1
    rw [F_X7_findFraction_L44, if_neg (by rw [show (100 : Int32) = I ((100 : Nat) : Int) from rfl, I_leN (by omega) (by omega)]; omega), show (500000000 : Int64) = J 500000000 from rfl]
    simp only [l0]
    rw [euc]
    by_cases z : b ≤ 500000000
    · rw [if_pos (by omega), if_pos z]
    · have qr := J_qr (a := a) (b := b) (by omega) (by omega)
      rw [if_neg (by omega), if_neg z, if_neg (J_z (by omega))]
      simp only [bnd]
      rw [qr.1, qr.2, J_mul, J_sub, I_suc]
      exact ih b (a % b) d _ (l9 + 1) nf (EU_st h (by omega)) (hlf h.1 (by omega) (by rw [show n + 57 + 1 = n + 1 + 57 by omega]; exact m)).1 (by omega) (by omega)
def r221 (sh : List Sh) (f : Nat) (S : St) (x : Nat × Int) : Option (Int32 × St) := F_X12_isFound_L221 sh f 94 S (J (x.1 : Nat)) (J (x.2.natAbs : Nat)) (J (if 0 ≤ x.2 then (x.1 : Int) else -(x.1 : Int)))
theorem r_euc {R : Nat} (hR : R < 1152921504606846976) : ∀ (n a b : Nat) (c d : Int) (nf : Nat), EU R a b c d → a * b < 2 ^ (n + 57) → n < nf → F_X12_isFound_L144 sh f 94 nf S (J a) (J b) (J c) (J d) = r221 sh f S (euc n a b c d) := by
  have fin : ∀ (a b : Nat) (c d : Int) (nf : Nat), EU R a b c d → b ≤ 500000000 → F_X12_isFound_L144 sh f 94 (nf + 1) S (J a) (J b) (J c) (J d) = r221 sh f S (b, d) := by
    intro a b c d nf h z
    have dd := EU_d h
    have l0 := (lgz (a := (b : Int)) (c := 500000000) (by omega) (by omega)).2.1
    have l1 := (lgz (a := d) (c := 0) (by omega) (by omega)).1
    rw [F_X12_isFound_L144, show (500000000 : Int64) = J 500000000 from rfl]
    simp only [l0]
    rw [if_pos (by omega), c_labs (by omega), Option.bind_some, show (0 : Int64) = J 0 from rfl]
    simp only [l1]
    unfold r221
    by_cases g : 0 ≤ d
    · rw [if_pos g, if_pos g]
    · rw [if_neg g, if_neg g, J_neg]
  intro n
  induction n with
  | zero =>
    intro a b c d nf h m hn
    obtain ⟨nf, rfl⟩ : ∃ e, nf = e + 1 := ⟨nf - 1, by omega⟩
    have eb := (euc_b 0 a b c d h m).1
    rw [euc] at eb ⊢
    exact fin a b c d nf h eb
  | succ n ih =>
    intro a b c d nf h m hn
    obtain ⟨nf, rfl⟩ : ∃ e, nf = e + 1 := ⟨nf - 1, by omega⟩
    rw [euc]
    by_cases z : b ≤ 500000000
    · rw [if_pos z]
      exact fin a b c d nf h z
    · have bs := h.1
      have as := h.2.1
      have l0 := (lgz (a := (b : Int)) (c := 500000000) (by omega) (by omega)).2.1
      have qr := J_qr (a := a) (b := b) (by omega) (by omega)
      rw [if_neg z, F_X12_isFound_L144, show (500000000 : Int64) = J 500000000 from rfl]
      simp only [l0]
      rw [if_neg (by omega), if_neg (J_z (by omega))]
      simp only [bnd]
      rw [qr.1, qr.2, J_mul, J_sub]
      exact ih b (a % b) d _ nf (EU_st h (by omega)) (hlf h.1 (by omega) (by rw [show n + 57 + 1 = n + 1 + 57 by omega]; exact m)).1 (by omega)
/-- Euclid's divisor, of the class -/
theorem c_dvq0 (x y : Int64) : ∀ (n a b l nf : Nat), b < a → a < 9223372036854775808 → a * b < 2 ^ n → l + n ≤ 99 → n < nf → F_X7_divisorOf_L9 sh f S x y nf (J a) (J b) (I l) = some (J (Nat.gcd a b : Nat)) := by
  intro n
  induction n with
  | zero =>
    intro a b l nf h ha m hl hn
    obtain ⟨nf, rfl⟩ : ∃ e, nf = e + 1 := ⟨nf - 1, by omega⟩
    have b0 : b = 0 := by
      by_cases z : b = 0
      · exact z
      · have := Nat.mul_le_mul (show 1 ≤ a by omega) (show 1 ≤ b by omega)
        omega
    subst b0
    rw [F_X7_divisorOf_L9, if_neg (by rw [show (100 : Int32) = I ((100 : Nat) : Int) from rfl, I_leN (by omega) (by omega)]; omega), if_pos (by decide), Nat.gcd_zero_right]
  | succ n ih =>
    intro a b l nf h ha m hl hn
    obtain ⟨nf, rfl⟩ : ∃ e, nf = e + 1 := ⟨nf - 1, by omega⟩
    have l0 := (lgz (a := (b : Int)) (c := 0) (by omega) (by omega)).2.2.2
    rw [F_X7_divisorOf_L9, if_neg (by rw [show (100 : Int32) = I ((100 : Nat) : Int) from rfl, I_leN (by omega) (by omega)]; omega), show (0 : Int64) = J 0 from rfl]
    simp only [l0]
    by_cases z : b = 0
    · subst z
      rw [if_pos (by omega), Nat.gcd_zero_right]
    · have qr := J_qr (a := a) (b := b) (by omega) (by omega)
      rw [if_neg (by omega), if_neg (show ¬ J b = J 0 from J_z (by omega))]
      simp only [bnd]
      rw [qr.1, qr.2, I_suc, ih b (a % b) (l + 1) nf (Nat.mod_lt _ (by omega)) (by omega) (hlf h (by omega) m).1 (by omega) (by omega), Nat.gcd_comm b, ← Nat.gcd_rec, Nat.gcd_comm]
theorem c_dvq {a b : Nat} (hf : 1000 ≤ f) (ha : a ≤ 500000000) (hb : 1 ≤ b ∧ b ≤ 500000000) : F_X7_divisorOf sh f S (J a) (J b) = some (J (Nat.gcd a b : Nat)) := by
  obtain ⟨f', hf'⟩ : ∃ e, f = e + 1 := ⟨f - 1, by omega⟩
  have l0 := (lgz (a := (b : Int)) (c := 0) (by omega) (by omega)).2.2.2
  have qr := J_qr (a := a) (b := b) (by omega) (by omega)
  have key : ∀ n, n = f' + 1 → F_X7_divisorOf_L9 sh f S (J a) (J b) n (J a) (J b) 0 = some (J (Nat.gcd a b : Nat)) := fun n hn => by
    rw [hn, F_X7_divisorOf_L9, if_neg (by decide), show (0 : Int64) = J 0 from rfl]
    simp only [l0]
    rw [if_neg (by omega), if_neg (show ¬ J b = J 0 from J_z (by omega))]
    simp only [bnd]
    have ml : b * (a % b) ≤ 500000000 * 500000000 := Nat.mul_le_mul hb.2 (by have := Nat.mod_le a b; omega)
    have p : (2 : Nat) ^ 60 = 1152921504606846976 := by decide
    rw [qr.1, qr.2, show (0 : Int32) + 1 = I ((1 : Nat) : Int) from rfl, c_dvq0 (J a) (J b) 60 b (a % b) 1 f' (Nat.mod_lt _ (by omega)) (by omega) (by omega) (by omega) (by omega), Nat.gcd_comm b, ← Nat.gcd_rec, Nat.gcd_comm]
  exact key f hf'
theorem r_cmn0 (x y : Int32) : ∀ (n a b nf : Nat), b < a → a < 2147483648 → a * b < 2 ^ n → n < nf → F_X12_common_L4 sh f S x y nf (I b) (I a) = some (I (Nat.gcd a b : Nat)) := by
  intro n
  induction n with
  | zero =>
    intro a b nf h ha m hn
    obtain ⟨nf, rfl⟩ : ∃ e, nf = e + 1 := ⟨nf - 1, by omega⟩
    have b0 : b = 0 := by
      by_cases z : b = 0
      · exact z
      · have := Nat.mul_le_mul (show 1 ≤ a by omega) (show 1 ≤ b by omega)
        omega
    subst b0
    rw [F_X12_common_L4, if_pos (by decide), Nat.gcd_zero_right]
  | succ n ih =>
    intro a b nf h ha m hn
    obtain ⟨nf, rfl⟩ : ∃ e, nf = e + 1 := ⟨nf - 1, by omega⟩
    rw [F_X12_common_L4]
    by_cases z : b = 0
    · subst z
      rw [if_pos (by decide), Nat.gcd_zero_right]
    · have e := I_qr (a := a) (b := b) (by omega) (by omega)
      rw [if_neg (by rw [show (0 : Int32) = I ((0 : Nat) : Int) from rfl, I_leN (by omega) (by omega)]; omega), if_neg (by rw [show (0 : Int32) = I ((0 : Nat) : Int) from rfl, I_eqN (by omega) (by omega)]; omega)]
      simp only [bnd]
      rw [e, ih b (a % b) nf (Nat.mod_lt _ (by omega)) (by omega) (hlf h (by omega) m).1 (by omega), Nat.gcd_comm b, ← Nat.gcd_rec, Nat.gcd_comm]
theorem r_cmn {a b : Nat} (hf : 1000 ≤ f) (ha : a ≤ 500000000) (hb : 1 ≤ b ∧ b ≤ 500000000) : F_X12_common sh f S (I a) (I b) = some (I (Nat.gcd a b : Nat)) := by
  unfold F_X12_common
  have p : (2 : Nat) ^ 60 = 1152921504606846976 := by decide
  by_cases h : a < b
  · have ml : b * a ≤ 500000000 * 500000000 := Nat.mul_le_mul hb.2 ha
    rw [r_cmn0 (I a) (I b) 60 b a f h (by omega) (by omega) (by omega), Nat.gcd_comm]
  · obtain ⟨f', hf'⟩ : ∃ e, f = e + 1 := ⟨f - 1, by omega⟩
    have key : ∀ n, n = f' + 1 → F_X12_common_L4 sh f S (I a) (I b) n (I a) (I b) = some (I (Nat.gcd a b : Nat)) := fun n hn => by
      have e := I_qr (a := b) (b := a) (by omega) (by omega)
      rw [hn, F_X12_common_L4, if_neg (by rw [show (0 : Int32) = I ((0 : Nat) : Int) from rfl, I_leN (by omega) (by omega)]; omega), if_neg (by rw [show (0 : Int32) = I ((0 : Nat) : Int) from rfl, I_eqN (by omega) (by omega)]; omega)]
      simp only [bnd]
      have ml : a * (b % a) ≤ 500000000 * 500000000 := Nat.mul_le_mul ha (by have := Nat.mod_le b a; omega)
      rw [e, r_cmn0 (I a) (I b) 60 a (b % a) f' (Nat.mod_lt _ (by omega)) (by omega) (by omega) (by omega), Nat.gcd_comm a, ← Nat.gcd_rec]
    exact key f hf'
end BZb
