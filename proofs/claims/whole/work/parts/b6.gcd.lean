/-! THE REFERENCE'S greatest common divisor. -/
section B6a
theorem cop2 {g : Nat} (h : g % 2 = 1) : Nat.Coprime g 2 := by
  show Nat.gcd g 2 = 1
  rw [Nat.gcd_comm, Nat.gcd_rec, h]
  decide
theorem if10 {α : Type} {p : Prop} [Decidable p] {A E : α} : (if (if p then (1 : Int32) else 0) = 0 then A else E) = if p then E else A := by
  by_cases c : p
  · rw [if_pos c, if_pos c, if_neg (by decide)]
  · rw [if_neg c, if_neg c, if_pos rfl]
theorem gcd2 {a b : Nat} (h : Nat.gcd (2 * a) b % 2 = 1) : Nat.gcd (2 * a) b = Nat.gcd a b := by
  apply Nat.dvd_antisymm
  · exact Nat.dvd_gcd ((cop2 h).dvd_of_dvd_mul_left (Nat.gcd_dvd_left _ _)) (Nat.gcd_dvd_right _ _)
  · exact Nat.dvd_gcd (Nat.dvd_trans (Nat.gcd_dvd_left _ _) (Nat.dvd_mul_left _ _)) (Nat.gcd_dvd_right _ _)
theorem gcdp {a b : Nat} : ∀ e : Nat, Nat.gcd (a * 2 ^ e) b % 2 = 1 → Nat.gcd (a * 2 ^ e) b = Nat.gcd a b
  | 0, _ => by rw [Nat.pow_zero, Nat.mul_one]
  | e + 1, h => by
    rw [show a * 2 ^ (e + 1) = 2 * (a * 2 ^ e) by rw [Nat.pow_succ]; grind] at h ⊢
    have q := gcd2 h
    rw [q] at h ⊢
    exact gcdp e h
theorem gcd_even {a b : Nat} (h : ¬ (a % 2 = 0 ∧ b % 2 = 0)) : Nat.gcd a b % 2 = 1 := by
  by_cases c : Nat.gcd a b % 2 = 1
  · exact c
  · have d : 2 ∣ Nat.gcd a b := Nat.dvd_of_mod_eq_zero (by omega)
    have d1 := Nat.mod_eq_zero_of_dvd (Nat.dvd_trans d (Nat.gcd_dvd_left a b))
    have d2 := Nat.mod_eq_zero_of_dvd (Nat.dvd_trans d (Nat.gcd_dvd_right a b))
    exact absurd ⟨d1, d2⟩ h
theorem odd_part : ∀ (i b : Nat), 0 < b → b < 2 ^ i → ∃ m e, b = m * 2 ^ e ∧ m % 2 = 1
  | 0, b, h, g => by simp at g; omega
  | i + 1, b, h, g => by
    by_cases c : b % 2 = 1
    · exact ⟨b, 0, by rw [Nat.pow_zero, Nat.mul_one], c⟩
    · obtain ⟨m, e, e1, e2⟩ := odd_part i (b / 2) (by omega) (by rw [Nat.pow_succ] at g; omega)
      refine ⟨m, e + 1, ?_, e2⟩
      rw [Nat.pow_succ, ← Nat.mul_assoc, ← e1]
      omega
end B6a
section B6b
variable {sh : List Sh} {f : Nat} {c0 c1 : Nat}
abbrev gF (c0 c1 : Nat) (S S' : St) : Prop := ∀ y, y ≠ c0 → y ≠ c1 → y ≠ 150 → Sm S S' y
theorem r_takesAway (hf : 1000 ≤ f) (S : St) (h01 : c0 ≠ c1) (h0 : c0 ≠ 150) (h1 : c1 ≠ 150) {a b : Nat} (ha : wz S c0 = a) (hb : wz S c1 = b) (le : b ≤ a) : ∃ S', F_X12_takesAway sh f S 94 c0 16 c1 16 = some S' ∧ wz S' c0 = ((a - b : Nat) : Int) ∧ wz S' c1 = b ∧ gF c0 c1 S S' := by
  obtain ⟨T, t0, t1, t2⟩ := r_wcopies (sh := sh) (f := f) hf S (c0 := 150) (c1 := c1) h1
  obtain ⟨U, u0, u1, u2⟩ := r_turns (sh := sh) (f := f) hf T 150
  obtain ⟨V, v0, v1, v2⟩ := r_adds (sh := sh) (f := f) hf U c0 150
  have t0' : F_X12_copies sh f S (94 + 56) 16 c1 16 = some T := t0
  have u0' : F_X12_turns sh f T (94 + 56) 16 = some U := u0
  have v0' : F_X12_adds sh f U c0 16 (94 + 56) 16 = some V := v0
  unfold F_X12_takesAway
  rw [t0', Option.bind_some, u0', Option.bind_some, v0', Option.bind_some]
  refine ⟨V, rfl, ?_, ?_, fun y y0 y1 y2 => ((t2 y y2).trans (u2 y y2)).trans (v2 y y0)⟩
  · have e1 : wz U c0 = a := by rw [wz_sm (u2 c0 h0), wz_sm (t2 c0 h0), ha]
    have bd := wz_bd S c0
    rw [v1, e1, u1, t1, hb, Int.add_emod_emod, show (a : Int) + -(b : Int) = ((a - b : Nat) : Int) by omega]
    exact Int.emod_eq_of_lt (by omega) (by omega)
  · rw [wz_sm (v2 c1 (Ne.symm h01)), wz_sm (u2 c1 h1), wz_sm (t2 c1 h1), hb]
theorem r_L63 (hf : 1000 ≤ f) (h01 : c0 ≠ c1) (h0 : c0 ≠ 150) (h1 : c1 ≠ 150) (k41 : St → Int32 → Option St) (l3 : Int32) : ∀ (i nf b : Nat) (T : St), i < nf → 0 < b → b < 2 ^ i → wz T c1 = b → ∃ T' m e, b = m * 2 ^ e ∧ m % 2 = 1 ∧ wz T' c1 = m ∧ (∀ y, y ≠ c1 → Sm T T' y) ∧ F_X12_divisor_L63 sh f 94 c0 16 c1 16 k41 nf T l3 = F_X12_divisor_L63 sh f 94 c0 16 c1 16 k41 1 T' l3 := by
  intro i
  induction i with
  | zero => intro nf b T h1 h2 h3; simp at h3; omega
  | succ i ih =>
    intro nf b T hn hb hi hw
    obtain ⟨nf, rfl⟩ : ∃ e, nf = e + 1 := ⟨nf - 1, by omega⟩
    have lo := wz_low T c1
    have b0 := uu_b0 (sA T c1 0)
    by_cases c : b % 2 = 1
    · refine ⟨T, b, 0, by rw [Nat.pow_zero, Nat.mul_one], c, hw, fun _ _ => Sm.rfl, ?_⟩
      have n0 : ¬ (sA T c1 (0 : Int32).toNatClampNeg &&& 1 = 0) := by
        show ¬ (sA T c1 0 &&& 1 = 0)
        rw [b0]; omega
      rw [F_X12_divisor_L63, if_neg (by decide), if_neg n0, F_X12_divisor_L63, if_neg (by decide), if_neg n0]
    · obtain ⟨U, u0, u1, u2⟩ := r_halves (sh := sh) (f := f) hf T c1
      have n0 : (sA T c1 (0 : Int32).toNatClampNeg &&& 1 = 0) := by
        show (sA T c1 0 &&& 1 = 0)
        rw [b0]; omega
      obtain ⟨T', m, e, e1, e2, e3, e4, e5⟩ := ih nf (b / 2) U (by omega) (by omega) (by rw [Nat.pow_succ] at hi; omega) (by rw [u1, hw]; omega)
      refine ⟨T', m, e + 1, ?_, e2, e3, fun y hy => (u2 y hy).trans (e4 y hy), ?_⟩
      · rw [Nat.pow_succ, ← Nat.mul_assoc, ← e1]; omega
      · rw [F_X12_divisor_L63, if_neg (by decide), if_pos n0, u0, Option.bind_some, e5]
theorem r_L48 (hf : 1000 ≤ f) (k41 : St → Int32 → Option St) (l3 : Int32) : ∀ (i nf b : Nat) (T : St), i < nf → 0 < b → b < 2 ^ i → wz T c0 = b → ∃ T' m e, b = m * 2 ^ e ∧ m % 2 = 1 ∧ wz T' c0 = m ∧ (∀ y, y ≠ c0 → Sm T T' y) ∧ F_X12_divisor_L48 sh f 94 c0 16 c1 16 k41 nf T l3 = F_X12_divisor_L63 sh f 94 c0 16 c1 16 k41 f T' l3 := by
  intro i
  induction i with
  | zero => intro nf b T h1 h2 h3; simp at h3; omega
  | succ i ih =>
    intro nf b T hn hb hi hw
    obtain ⟨nf, rfl⟩ : ∃ e, nf = e + 1 := ⟨nf - 1, by omega⟩
    have lo := wz_low T c0
    have b0 := uu_b0 (sA T c0 0)
    by_cases c : b % 2 = 1
    · refine ⟨T, b, 0, by rw [Nat.pow_zero, Nat.mul_one], c, hw, fun _ _ => Sm.rfl, ?_⟩
      have n0 : ¬ (sA T c0 (0 : Int32).toNatClampNeg &&& 1 = 0) := by
        show ¬ (sA T c0 0 &&& 1 = 0)
        rw [b0]; omega
      rw [F_X12_divisor_L48, if_neg (by decide), if_neg n0]
    · obtain ⟨U, u0, u1, u2⟩ := r_halves (sh := sh) (f := f) hf T c0
      have n0 : (sA T c0 (0 : Int32).toNatClampNeg &&& 1 = 0) := by
        show (sA T c0 0 &&& 1 = 0)
        rw [b0]; omega
      obtain ⟨T', m, e, e1, e2, e3, e4, e5⟩ := ih nf (b / 2) U (by omega) (by omega) (by rw [Nat.pow_succ] at hi; omega) (by rw [u1, hw]; omega)
      refine ⟨T', m, e + 1, ?_, e2, e3, fun y hy => (u2 y hy).trans (e4 y hy), ?_⟩
      · rw [Nat.pow_succ, ← Nat.mul_assoc, ← e1]; omega
      · rw [F_X12_divisor_L48, if_neg (by decide), if_pos n0, u0, Option.bind_some, e5]
theorem bit_lt {m e i : Nat} (hm : m % 2 = 1) (h0 : (m * 2 ^ e) % 2 = 0 → m * 2 ^ e < 2 ^ (i + 1)) (h1 : (m * 2 ^ e) % 2 = 1 → m * 2 ^ e < 2 ^ i) : m < 2 ^ i ∧ m * 2 ^ e < 2 ^ (i + 1) := by
  cases e with
  | zero =>
    rw [Nat.pow_zero, Nat.mul_one] at *
    have := h1 hm
    rw [Nat.pow_succ]
    exact ⟨this, by omega⟩
  | succ e =>
    have q : m * 2 ^ (e + 1) = 2 * (m * 2 ^ e) := by rw [Nat.pow_succ]; grind
    have l := h0 (by rw [q]; omega)
    have p : 1 ≤ 2 ^ e := Nat.one_le_two_pow
    have : m ≤ m * 2 ^ e := Nat.le_mul_of_pos_right m p
    rw [q] at l ⊢
    rw [Nat.pow_succ] at l ⊢
    exact ⟨by omega, l⟩
theorem r_L41 (hf : 20000 ≤ f) (h01 : c0 ≠ c1) (h0 : c0 ≠ 150) (h1 : c1 ≠ 150) (l3 : Int32) : ∀ (M i j nf a b : Nat) (T : St), i + j ≤ M → M < nf → i ≤ 600 → j ≤ 600 → wz T c0 = a → wz T c1 = b → 0 < a → Nat.gcd a b % 2 = 1 → (a % 2 = 0 → a < 2 ^ (i + 1)) → (a % 2 = 1 → a < 2 ^ i) → (b % 2 = 0 → b < 2 ^ (j + 1)) → (b % 2 = 1 → b < 2 ^ j) → ∃ T', F_X12_divisor_L41 sh f 94 c0 16 c1 16 nf T l3 = F_X12_divisor_L107 sh f 94 c0 16 c1 16 f T' l3 0 ∧ wz T' c0 = (Nat.gcd a b : Nat) ∧ gF c0 c1 T T' := by
  intro M
  induction M with
  | zero =>
    intro i j nf a b T hM hn i6 j6 wa wb a0 g ia ib ja jb
    obtain ⟨nf, rfl⟩ : ∃ e, nf = e + 1 := ⟨nf - 1, by omega⟩
    have : i = 0 := by omega
    subst this
    have : j = 0 := by omega
    subst this
    have b0 : b = 0 := by
      by_cases c : b % 2 = 1
      · have := jb c; simp at this; omega
      · have := ja (by omega); simp at this; omega
    rw [F_X12_divisor_L41, r_isZero (by omega), Option.bind_some, wb, if10, if_pos (by omega)]
    exact ⟨T, rfl, by rw [wa, b0, Nat.gcd_zero_right], fun _ _ _ _ => Sm.rfl⟩
  | succ M ih =>
    intro i j nf a b T hM hn i6 j6 wa wb a0 g ia ib ja jb
    obtain ⟨nf, rfl⟩ : ∃ e, nf = e + 1 := ⟨nf - 1, by omega⟩
    rw [F_X12_divisor_L41, r_isZero (by omega), Option.bind_some, wb, if10]
    by_cases bz : b = 0
    · rw [if_pos (by omega)]
      exact ⟨T, rfl, by rw [wa, bz, Nat.gcd_zero_right], fun _ _ _ _ => Sm.rfl⟩
    · rw [if_neg (by omega)]
      have aL : a < 2 ^ (i + 1) := by
        by_cases c : a % 2 = 1
        · have := ib c; rw [Nat.pow_succ]; omega
        · exact ia (by omega)
      have bL : b < 2 ^ (j + 1) := by
        by_cases c : b % 2 = 1
        · have := jb c; rw [Nat.pow_succ]; omega
        · exact ja (by omega)
      obtain ⟨U, m, e, u0, u1, u2, u3, u4⟩ := r_L48 (sh := sh) (f := f) (c0 := c0) (c1 := c1) (by omega) (F_X12_divisor_L41 sh f 94 c0 16 c1 16 nf) l3 (i + 1) f a T (by omega) a0 aL wa
      have wU : wz U c1 = b := by rw [wz_sm (u3 c1 (Ne.symm h01)), wb]
      obtain ⟨V, n, d, v0, v1, v2, v3, v4⟩ := r_L63 (sh := sh) (f := f) (c0 := c0) (c1 := c1) (by omega) h01 h0 h1 (F_X12_divisor_L41 sh f 94 c0 16 c1 16 nf) l3 (j + 1) f b U (by omega) (by omega) bL wU
      have wV : wz V c0 = m := by rw [wz_sm (v3 c0 h01), u2]
      have lV := wz_low V c1
      have b1 := uu_b0 (sA V c1 0)
      have n0 : ¬ (sA V c1 (0 : Int32).toNatClampNeg &&& 1 = 0) := by
        show ¬ (sA V c1 0 &&& 1 = 0)
        rw [b1]; omega
      have mi := (bit_lt (m := m) (e := e) (i := i) u1 (by rw [← u0]; exact ia) (by rw [← u0]; exact ib)).1
      have nj := (bit_lt (m := n) (e := d) (i := j) v1 (by rw [← v0]; exact ja) (by rw [← v0]; exact jb)).1
      have g1 : Nat.gcd m b = Nat.gcd a b := by
        rw [u0] at g ⊢
        exact (gcdp e g).symm
      have g2 : Nat.gcd m n = Nat.gcd a b := by
        rw [← g1]
        have g' : Nat.gcd (n * 2 ^ d) m % 2 = 1 := by rw [← v0, Nat.gcd_comm, g1]; exact g
        have := gcdp d g'
        rw [← v0] at this
        rw [Nat.gcd_comm m n, ← this, Nat.gcd_comm]
      have FV : gF c0 c1 T V := fun y y0 y1 y2 => (u3 y y0).trans (v3 y y1)
      rw [u4, v4, F_X12_divisor_L63, if_neg (by decide), if_neg n0, r_noLess (by omega), Option.bind_some, wV, v2, if10]
      by_cases c : m ≤ n
      · obtain ⟨X, x0, x1, x2, x3⟩ := r_takesAway (sh := sh) (f := f) (c0 := c1) (c1 := c0) (by omega) V (Ne.symm h01) h1 h0 v2 wV c
        rw [if_pos (by omega), x0, Option.bind_some]
        have j1 : 1 ≤ j := by
          by_cases q : j = 0
          · rw [q] at nj; simp at nj; omega
          · omega
        have g3 : Nat.gcd m (n - m) = Nat.gcd a b := by rw [← g2]; exact Nat.gcd_sub_self_right c
        obtain ⟨T', t0, t1, t2⟩ := ih i (j - 1) nf m (n - m) X (by omega) (by omega) i6 (by omega) x2 x1 (by omega) (by rw [g3]; exact g) (fun q => by omega) (fun _ => mi) (fun _ => by rw [show j - 1 + 1 = j by omega]; omega) (fun q => by omega)
        exact ⟨T', t0, by rw [t1, g3], fun y y0 y1 y2 => ((FV y y0 y1 y2).trans (x3 y y1 y0 y2)).trans (t2 y y0 y1 y2)⟩
      · obtain ⟨X, x0, x1, x2, x3⟩ := r_takesAway (sh := sh) (f := f) (c0 := c0) (c1 := c1) (by omega) V h01 h0 h1 wV v2 (by omega)
        rw [if_neg (by omega), x0, Option.bind_some]
        have i1 : 1 ≤ i := by
          by_cases q : i = 0
          · rw [q] at mi; simp at mi; omega
          · omega
        have g3 : Nat.gcd (m - n) n = Nat.gcd a b := by rw [← g2]; exact Nat.gcd_sub_self_left (by omega)
        obtain ⟨T', t0, t1, t2⟩ := ih (i - 1) j nf (m - n) n X (by omega) (by omega) (by omega) j6 x1 x2 (by omega) (by rw [g3]; exact g) (fun _ => by rw [show i - 1 + 1 = i by omega]; omega) (fun q => by omega) (fun q => by omega) (fun _ => nj)
        exact ⟨T', t0, by rw [t1, g3], fun y y0 y1 y2 => ((FV y y0 y1 y2).trans (x3 y y0 y1 y2)).trans (t2 y y0 y1 y2)⟩
theorem r_L107 (hf : 1000 ≤ f) {k : Nat} (hk : k < 2147483648) : ∀ (d i nf : Nat) (T : St) (v : Nat), i + d = k → d < nf → wz T c0 = v → ((v * 2 ^ d : Nat) : Int) < W5 → ∃ T', F_X12_divisor_L107 sh f 94 c0 16 c1 16 nf T (I k) (I i) = some T' ∧ wz T' c0 = ((v * 2 ^ d : Nat) : Int) ∧ ∀ y, y ≠ c0 → Sm T T' y := by
  intro d
  induction d with
  | zero =>
    intro i nf T v hi hn hv hw
    obtain ⟨nf, rfl⟩ : ∃ e, nf = e + 1 := ⟨nf - 1, by omega⟩
    rw [F_X12_divisor_L107, if_pos (by rw [I_leN (by omega) (by omega)]; omega)]
    exact ⟨T, rfl, by rw [hv, Nat.pow_zero, Nat.mul_one], fun _ _ => Sm.rfl⟩
  | succ d ih =>
    intro i nf T v hi hn hv hw
    obtain ⟨nf, rfl⟩ : ∃ e, nf = e + 1 := ⟨nf - 1, by omega⟩
    obtain ⟨U, u0, u1, u2⟩ := r_adds (sh := sh) (f := f) hf T c0 c0
    have q : v * 2 ^ (d + 1) = 2 * v * 2 ^ d := by rw [Nat.pow_succ]; grind
    rw [q] at hw ⊢
    have p : 1 ≤ 2 ^ d := Nat.one_le_two_pow
    have l : 2 * v ≤ 2 * v * 2 ^ d := Nat.le_mul_of_pos_right _ p
    have wU : wz U c0 = ((2 * v : Nat) : Int) := by
      rw [u1, hv, show (v : Int) + v = ((2 * v : Nat) : Int) by omega]
      exact Int.emod_eq_of_lt (by omega) (by omega)
    obtain ⟨T', t0, t1, t2⟩ := ih (i + 1) nf U (2 * v) (by omega) (by omega) wU hw
    rw [F_X12_divisor_L107, if_neg (by rw [I_leN (by omega) (by omega)]; omega), u0, Option.bind_some]
    simp only [bnd, I_suc]
    exact ⟨T', t0, t1, fun y hy => (u2 y hy).trans (t2 y hy)⟩
theorem r_L15 (hf : 1000 ≤ f) (h01 : c0 ≠ c1) : ∀ (i nf l a b : Nat) (T : St), i < nf → 0 < a → a < 2 ^ i → wz T c0 = a → wz T c1 = b → ∃ T' k a' b', a = a' * 2 ^ k ∧ b = b' * 2 ^ k ∧ k ≤ i ∧ ¬ (a' % 2 = 0 ∧ b' % 2 = 0) ∧ wz T' c0 = a' ∧ wz T' c1 = b' ∧ (∀ y, y ≠ c0 → y ≠ c1 → Sm T T' y) ∧ F_X12_divisor_L15 sh f 94 c0 16 c1 16 nf T (I l) = F_X12_divisor_L41 sh f 94 c0 16 c1 16 f T' (I ((l + k : Nat) : Int)) := by
  intro i
  induction i with
  | zero => intro nf l a b T h1 h2 h3; simp at h3; omega
  | succ i ih =>
    intro nf l a b T hn a0 ai wa wb
    obtain ⟨nf, rfl⟩ : ∃ e, nf = e + 1 := ⟨nf - 1, by omega⟩
    have o := uu_or2 (sA T c0 0) (sA T c1 0)
    have lo0 := wz_low T c0
    have lo1 := wz_low T c1
    have o' : ((sA T c0 (0 : Int32).toNatClampNeg ||| sA T c1 (0 : Int32).toNatClampNeg) &&& 1 = 0) = (a % 2 = 0 ∧ b % 2 = 0) := by
      show ((sA T c0 0 ||| sA T c1 0) &&& 1 = 0) = _
      rw [o]
      exact propext ⟨fun h => by omega, fun h => by omega⟩
    by_cases c : a % 2 = 0 ∧ b % 2 = 0
    · obtain ⟨U, u0, u1, u2⟩ := r_halves (sh := sh) (f := f) hf T c0
      obtain ⟨V, v0, v1, v2⟩ := r_halves (sh := sh) (f := f) hf U c1
      have wV0 : wz V c0 = ((a / 2 : Nat) : Int) := by rw [wz_sm (v2 c0 h01), u1, wa]; omega
      have wV1 : wz V c1 = ((b / 2 : Nat) : Int) := by rw [v1, wz_sm (u2 c1 (Ne.symm h01)), wb]; omega
      obtain ⟨T', k, a', b', e1, e2, e3, e4, e5, e6, e7, e8⟩ := ih nf (l + 1) (a / 2) (b / 2) V (by omega) (by omega) (by rw [Nat.pow_succ] at ai; omega) wV0 wV1
      refine ⟨T', k + 1, a', b', ?_, ?_, by omega, e4, e5, e6, fun y y0 y1 => ((u2 y y0).trans (v2 y y1)).trans (e7 y y0 y1), ?_⟩
      · rw [Nat.pow_succ, ← Nat.mul_assoc, ← e1]; omega
      · rw [Nat.pow_succ, ← Nat.mul_assoc, ← e2]; omega
      · rw [F_X12_divisor_L15, if_neg (by decide), if_neg (by decide)]
        simp only [o']
        rw [if_pos c, u0, Option.bind_some, v0, Option.bind_some]
        simp only [bnd, I_suc]
        rw [e8, show l + 1 + k = l + (k + 1) by omega]
    · refine ⟨T, 0, a, b, by rw [Nat.pow_zero, Nat.mul_one], by rw [Nat.pow_zero, Nat.mul_one], by omega, c, wa, wb, fun _ _ _ => Sm.rfl, ?_⟩
      rw [F_X12_divisor_L15, if_neg (by decide), if_neg (by decide)]
      simp only [o']
      rw [if_neg c]
      rfl
theorem r_divisor (hf : 20000 ≤ f) (S : St) (h01 : c0 ≠ c1) (h0 : c0 ≠ 150) (h1 : c1 ≠ 150) {a b : Nat} (ha : wz S c0 = a) (hb : wz S c1 = b) (al : a < 2 ^ 511) (bl : b < 2 ^ 511) : ∃ S', F_X12_divisor sh f S 94 c0 16 c1 16 = some S' ∧ wz S' c0 = (Nat.gcd a b : Nat) ∧ gF c0 c1 S S' := by
  unfold F_X12_divisor
  rw [r_isZero (by omega), Option.bind_some, ha, if10]
  by_cases az : a = 0
  · obtain ⟨T, t0, t1, t2⟩ := r_wcopies (sh := sh) (f := f) (by omega) S (c0 := c0) (c1 := c1) (Ne.symm h01)
    rw [if_pos (by omega), t0]
    exact ⟨T, rfl, by rw [t1, hb, az, Nat.gcd_zero_left], fun y y0 _ _ => t2 y y0⟩
  · rw [if_neg (by omega)]
    obtain ⟨T, k, a', b', e1, e2, e3, e4, e5, e6, e7, e8⟩ := r_L15 (sh := sh) (f := f) (c0 := c0) (c1 := c1) (by omega) h01 511 f 0 a b S (by omega) (by omega) al ha hb
    have e8' : F_X12_divisor_L15 sh f 94 c0 16 c1 16 f S 0 = _ := e8
    have p : 1 ≤ 2 ^ k := Nat.one_le_two_pow
    have la : a' ≤ a' * 2 ^ k := Nat.le_mul_of_pos_right _ p
    have lb : b' ≤ b' * 2 ^ k := Nat.le_mul_of_pos_right _ p
    have a0 : 0 < a' := by
      by_cases q : a' = 0
      · rw [q, Nat.zero_mul] at e1; omega
      · omega
    obtain ⟨U, u0, u1, u2⟩ := r_L41 (sh := sh) (f := f) (c0 := c0) (c1 := c1) hf h01 h0 h1 (I ((0 + k : Nat) : Int)) 1022 511 511 f a' b' T (by omega) (by omega) (by omega) (by omega) e5 e6 a0 (gcd_even e4) (fun _ => by rw [Nat.pow_succ]; omega) (fun _ => by omega) (fun _ => by rw [Nat.pow_succ]; omega) (fun _ => by omega)
    have ge : Nat.gcd a' b' * 2 ^ k = Nat.gcd a b := by rw [e1, e2, Nat.gcd_mul_right]
    have gl : Nat.gcd a b ≤ a := Nat.gcd_le_left b (by omega)
    have w : W5 = (4294967296 : Int) ^ 16 := rfl
    obtain ⟨V, v0, v1, v2⟩ := r_L107 (sh := sh) (f := f) (c0 := c0) (c1 := c1) (by omega) (k := 0 + k) (by omega) k 0 f U (Nat.gcd a' b') (by omega) (by omega) u1 (by rw [ge]; omega)
    have v0' : F_X12_divisor_L107 sh f 94 c0 16 c1 16 f U (I ((0 + k : Nat) : Int)) 0 = _ := v0
    rw [e8', u0, v0']
    exact ⟨V, rfl, by rw [v1, ge], fun y y0 y1 y2 => ((e7 y y0 y1).trans (u2 y y0 y1 y2)).trans (v2 y y0)⟩
end B6b
