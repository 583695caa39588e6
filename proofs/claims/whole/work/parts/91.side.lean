theorem popN_succ : ∀ k m, popN (k + 1) m = popN k m + m / 2 ^ k % 2
  | 0, m => by
    rw [popN, popN, Nat.pow_zero, Nat.div_one, popN]
    omega
  | k + 1, m => by
    have ih := popN_succ k (m / 2)
    rw [popN, ih, popN, Nat.div_div_eq_div_mul, Nat.pow_succ, Nat.mul_comm (2 ^ k) 2]
    omega
theorem popN_up {n s : Nat} (hs : s < 2 ^ n) : ∀ d, popN (n + d) s = popN n s
  | 0 => rfl
  | d + 1 => by
    have z : s / 2 ^ (n + d) = 0 := Nat.div_eq_of_lt (Nat.lt_of_lt_of_le hs (Nat.pow_le_pow_right (by omega) (by omega)))
    rw [← Nat.add_assoc, popN_succ, z, popN_up hs d]
    omega
/-- a side of n ends: with the first end, two within and two without -/
def sdV (n : Nat) (x : Int32) : Int32 := if 0 ≤ x.toInt ∧ x.toInt < 2 ^ n ∧ x.toInt % 2 = 1 ∧ 2 ≤ popN n x.toInt.toNat ∧ popN n x.toInt.toNat + 2 ≤ n then 1 else 0
section S91
variable {sh : List Sh} {f : Nat} {S : St} {t n : Nat}
theorem c_isSide (hn : n ≤ 6) (s2 : sI S t 2 = I n) (x : Int32) : F_X1_isSide sh f S t x = some (sdV n x) := by
  have p6 : 2 ^ n ≤ 2 ^ 6 := Nat.pow_le_pow_right (by omega) hn
  obtain ⟨v, hv⟩ : ∃ v, F_J6_bitCount_0f7a4 sh f S x = some v := ⟨_, rfl⟩
  unfold F_X1_isSide
  simp only [bnd, s2, hv, Option.bind_some, mask_in hn x]
  by_cases c : ∃ s : Nat, s < 2 ^ n ∧ x = I s
  · obtain ⟨s, hs, rfl⟩ := c
    rw [if_pos ⟨s, hs, rfl⟩]
    rw [c_pop (by omega)] at hv
    cases hv
    have pe : popN 12 s = popN n s := by
      have := popN_up hs (12 - n)
      rw [show n + (12 - n) = 12 by omega] at this
      exact this
    have pl := popN_le n s
    have ti : (I (s : Int)).toInt = s := I_toInt (by omega)
    have q1 : (I (s : Int) &&& 1 = 0) = (s % 2 = 0) := by
      rw [show (1 : Int32) = I ((1 : Nat) : Int) from rfl, I_and (by omega) (by omega), Nat.and_one_is_mod]
      exact I_eqN (b := 0) (by omega) (by omega)
    have q2 : (I (popN n s : Int) < 2) = (popN n s < 2) := I_ltN (b := 2) (by omega) (by omega)
    have q3 : (I (n : Int) - I (popN n s) < 2) = (n < popN n s + 2) := by
      rw [I_sub, show (2 : Int32) = I 2 from rfl, I_lt (by omega) (by omega)]
      exact propext ⟨fun h => by omega, fun h => by omega⟩
    unfold sdV
    simp only [q1, pe, q2, q3, ti, Int.toNat_natCast]
    have hs' : (s : Int) < 2 ^ n := by exact_mod_cast hs
    by_cases d1 : s % 2 = 0
    · rw [if_pos d1, if_neg (by omega)]
    · rw [if_neg d1]
      by_cases d2 : popN n s < 2
      · rw [if_pos d2, if_neg (by omega)]
      · rw [if_neg d2]
        by_cases d3 : n < popN n s + 2
        · rw [if_pos d3, if_neg (by omega)]
        · rw [if_neg d3, if_pos ⟨by omega, hs', by omega, by omega, by omega⟩]
  · rw [if_neg c]
    unfold sdV
    rw [if_neg]
    rintro ⟨h1, h2, _⟩
    apply c
    refine ⟨x.toInt.toNat, ?_, ?_⟩
    · have : ((x.toInt.toNat : Nat) : Int) < ((2 ^ n : Nat) : Int) := by
        rw [Int.toNat_of_nonneg h1]
        exact_mod_cast h2
      omega
    · rw [Int.toNat_of_nonneg h1]; exact I_of x
theorem r_isSide (hf : 1000 ≤ f) (hn : n ≤ 6) (s17 : sI S 94 17 = I n) (x : Int32) : F_X12_isSide sh f S 94 x = some (sdV n x) := by
  have p6 : 2 ^ n ≤ 2 ^ 6 := Nat.pow_le_pow_right (by omega) hn
  have p0 : 0 < 2 ^ n := Nat.two_pow_pos n
  have ones : (1 : Int32) <<< (I n &&& 31) = I ((2 ^ n : Nat) : Int) := one_shl (by omega)
  have stepc : ∀ j, j < n → ¬ sI S 94 17 ≤ I j := fun j hj => by rw [s17, I_leN (by omega) (by omega)]; omega
  have nx : ∀ j : Nat, I (j : Int) + 1 = I ((j + 1 : Nat) : Int) := fun j => by rw [show (1 : Int32) = I 1 from rfl, I_add]; rfl
  have fin : sI S 94 17 ≤ I n := by rw [s17, I_leN (by omega) (by omega)]; omega
  have q0 : (I (n : Int) ≤ 0) = (n = 0) := by
    rw [show (0 : Int32) = I ((0 : Nat) : Int) from rfl, I_leN (by omega) (by omega)]
    exact propext ⟨fun h => by omega, fun h => by omega⟩
  by_cases c : ∃ s : Nat, s < 2 ^ n ∧ x = I s
  · obtain ⟨s, hs, rfl⟩ := c
    have pl := popN_le n s
    have ti : (I (s : Int)).toInt = s := I_toInt (by omega)
    have loop : ∀ (r j nf : Nat), j + r = n → r < nf → F_X12_isSide_L4 sh f S 94 (I s) nf (I (popN j s)) (I j) = some (sdV n (I s)) := by
      intro r
      induction r with
      | zero =>
        intro j nf h1 h2
        obtain ⟨nf, rfl⟩ : ∃ e, nf = e + 1 := ⟨nf - 1, by omega⟩
        have : j = n := by omega
        subst this
        have q1 : (I (s : Int) &&& 1 = 1) = (s % 2 = 1) := by
          rw [show (1 : Int32) = I ((1 : Nat) : Int) from rfl, I_and (by omega) (by omega), Nat.and_one_is_mod]
          exact I_eqN (by omega) (by omega)
        have qs : (I (s : Int) ≤ 0) = (s = 0) := by
          rw [show (0 : Int32) = I ((0 : Nat) : Int) from rfl, I_leN (by omega) (by omega)]
          exact propext ⟨fun h => by omega, fun h => by omega⟩
        have q2 : (I (popN j s : Int) ≤ 1) = (popN j s ≤ 1) := I_leN (k := 1) (by omega) (by omega)
        have q3 : (I (j : Int) - I (popN j s) ≤ 1) = (j ≤ popN j s + 1) := by
          rw [I_sub, show (1 : Int32) = I 1 from rfl, I_le (by omega) (by omega)]
          exact propext ⟨fun h => by omega, fun h => by omega⟩
        have q4 : (I ((2 ^ j : Nat) : Int) ≤ I (s : Int)) = (2 ^ j ≤ s) := I_leN (by omega) (by omega)
        have hs' : (s : Int) < 2 ^ j := by exact_mod_cast hs
        rw [F_X12_isSide_L4, if_pos fin]
        unfold sdV
        simp only [s17, q0, qs, ones, q4, q1, q2, q3, ti, Int.toNat_natCast]
        by_cases d0 : j = 0
        · rw [if_pos d0, if_neg (by omega)]
        · rw [if_neg d0]
          by_cases d1 : s = 0
          · rw [if_pos d1, if_neg (by omega)]
          · rw [if_neg d1, if_neg (by omega)]
            by_cases d2 : s % 2 = 1
            · rw [if_pos d2]
              by_cases d3 : popN j s ≤ 1
              · rw [if_pos d3, if_neg (by omega)]
              · rw [if_neg d3]
                by_cases d4 : j ≤ popN j s + 1
                · rw [if_pos d4, if_neg (by omega)]
                · rw [if_neg d4, if_pos ⟨by omega, hs', by omega, by omega, by omega⟩]
            · rw [if_neg d2, if_neg (by omega)]
      | succ r ih =>
        intro j nf h1 h2
        obtain ⟨nf, rfl⟩ : ∃ e, nf = e + 1 := ⟨nf - 1, by omega⟩
        have h3 : s / 2 ^ j ≤ s := Nat.div_le_self _ _
        have bb : ∀ d : Nat, d = s / 2 ^ j → (I (s : Int) >>> (I j &&& 31)) &&& 1 = I ((d % 2 : Nat) : Int) := by
          intro d hd
          rw [I_shr (by omega) (by omega), ← hd, show (1 : Int32) = I ((1 : Nat) : Int) from rfl, I_and (by omega) (by omega), Nat.and_one_is_mod]
        rw [F_X12_isSide_L4, if_neg (stepc j (by omega))]
        simp only [bb _ rfl, bnd, nx, I_add]
        have e : ((popN j s : Nat) : Int) + ((s / 2 ^ j % 2 : Nat) : Int) = ((popN (j + 1) s : Nat) : Int) := by rw [popN_succ]; rfl
        rw [e]
        exact ih (j + 1) nf (by omega) (by omega)
    exact loop n 0 f (by omega) (by omega)
  · have out : x < 0 ∨ I ((2 ^ n : Nat) : Int) ≤ x := by
      obtain ⟨z, rfl, hz⟩ := I_ex x
      rw [show (0 : Int32) = I 0 from rfl, I_lt hz (by omega), I_le (by omega) hz]
      by_cases d : z < 0
      · exact Or.inl d
      · right
        apply Classical.byContradiction
        intro h
        exact c ⟨z.toNat, by omega, by rw [Int.toNat_of_nonneg (by omega)]⟩
    have v0 : sdV n x = 0 := by
      unfold sdV
      rw [if_neg]
      rintro ⟨h1, h2, _⟩
      apply c
      refine ⟨x.toInt.toNat, ?_, ?_⟩
      · have : ((x.toInt.toNat : Nat) : Int) < ((2 ^ n : Nat) : Int) := by
          rw [Int.toNat_of_nonneg h1]
          exact_mod_cast h2
        omega
      · rw [Int.toNat_of_nonneg h1]; exact I_of x
    have loop : ∀ (r j nf : Nat) (v : Int32), j + r = n → r < nf → F_X12_isSide_L4 sh f S 94 x nf v (I j) = some 0 := by
      intro r
      induction r with
      | zero =>
        intro j nf v h1 h2
        obtain ⟨nf, rfl⟩ : ∃ e, nf = e + 1 := ⟨nf - 1, by omega⟩
        have : j = n := by omega
        subst this
        rw [F_X12_isSide_L4, if_pos fin]
        simp only [s17, ones]
        by_cases d0 : I (j : Int) ≤ 0
        · rw [if_pos d0]
        · rw [if_neg d0]
          by_cases d1 : x ≤ 0
          · rw [if_pos d1]
          · rw [if_neg d1]
            rcases out with o | o
            · exact absurd (Int32.le_of_lt o) d1
            · rw [if_pos o]
      | succ r ih =>
        intro j nf v h1 h2
        obtain ⟨nf, rfl⟩ : ∃ e, nf = e + 1 := ⟨nf - 1, by omega⟩
        rw [F_X12_isSide_L4, if_neg (stepc j (by omega))]
        simp only [bnd, nx]
        exact ih (j + 1) nf _ (by omega) (by omega)
    rw [v0]
    exact loop n 0 f 0 (by omega) (by omega)
end S91
