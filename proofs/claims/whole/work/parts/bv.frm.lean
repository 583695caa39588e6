/-! ORBITS can be divided by: powers of 2 and 3. -/
section BVa
def cg' (p a b : Nat) : Prop := a % p = b % p
theorem cg'.mul {p a b c d : Nat} (h : cg' p a b) (g : cg' p c d) : cg' p (a * c) (b * d) := by
  unfold cg' at *
  rw [Nat.mul_mod, h, g, ← Nat.mul_mod]
theorem cg'.pow {p a b : Nat} (n : Nat) (h : cg' p a b) : cg' p (a ^ n) (b ^ n) := by
  unfold cg' at *
  rw [Nat.pow_mod, h, ← Nat.pow_mod]
theorem cg'.md (p a : Nat) : cg' p (a % p) a := Nat.mod_mod a p
theorem cg'.symm {p a b : Nat} (h : cg' p a b) : cg' p b a := Eq.symm h
theorem cg'.trans {p a b c : Nat} (h : cg' p a b) (g : cg' p b c) : cg' p a c := Eq.trans h g
def pwf (p : Nat) : Nat → Nat → Nat → Nat → Nat
  | 0, r, _, _ => r % p
  | i + 1, r, s, e => if e % 2 = 1 then pwf p i (r * s % p) (s * s % p) (e / 2) else pwf p i r (s * s % p) (e / 2)
theorem pwf_eq (p : Nat) : ∀ (i r s e : Nat), e < 2 ^ i → pwf p i r s e = (r * s ^ e) % p
  | 0, r, s, e, h => by
    have : e = 0 := by simp at h; exact h
    rw [pwf, this, Nat.pow_zero, Nat.mul_one]
  | i + 1, r, s, e, h => by
    rw [Nat.pow_succ] at h
    rw [pwf, pw_sq r s e p]
    by_cases c : e % 2 = 1
    · rw [if_pos c, if_pos c, pwf_eq p i _ _ _ (by omega)]
    · rw [if_neg c, if_neg c, pwf_eq p i _ _ _ (by omega)]
theorem f23_k : ∀ k : Fin 4, pwf (pQ k.val) 20 1 2 (pQ k.val - 1) = 1 ∧ pwf (pQ k.val) 20 1 3 (pQ k.val - 1) = 1 := by decide +kernel
theorem f23 {k : Nat} (hk : k < 4) : cg' (pQ k) (2 ^ (pQ k - 1)) 1 ∧ cg' (pQ k) (3 ^ (pQ k - 1)) 1 := by
  have b := pQ_b k
  obtain ⟨h2, h3⟩ := f23_k ⟨k, hk⟩
  have h2 : pwf (pQ k) 20 1 2 (pQ k - 1) = 1 := h2
  have h3 : pwf (pQ k) 20 1 3 (pQ k - 1) = 1 := h3
  rw [pwf_eq _ _ _ _ _ (by omega), Nat.one_mul] at h2 h3
  unfold cg'
  rw [h2, h3, Nat.mod_eq_of_lt (show 1 < pQ k by omega)]
  exact ⟨rfl, rfl⟩
def p23 (x : Nat) : Prop := ∃ a b, x = 2 ^ a * 3 ^ b
theorem p23_mul {x y : Nat} (h : p23 x) (g : p23 y) : p23 (x * y) := by
  obtain ⟨a, b, rfl⟩ := h
  obtain ⟨c, d, rfl⟩ := g
  refine ⟨a + c, b + d, ?_⟩
  rw [Nat.pow_add, Nat.pow_add]
  grind
theorem p23_4 {x : Nat} (h : 1 ≤ x ∧ x ≤ 4) : p23 x := by
  rcases (by omega : x = 1 ∨ x = 2 ∨ x = 3 ∨ x = 4) with rfl | rfl | rfl | rfl
  · exact ⟨0, 0, rfl⟩
  · exact ⟨1, 0, rfl⟩
  · exact ⟨0, 1, rfl⟩
  · exact ⟨2, 0, rfl⟩
theorem cop3 {g : Nat} (h : g % 3 ≠ 0) : Nat.Coprime g 3 := by
  show Nat.gcd g 3 = 1
  rw [Nat.gcd_comm, Nat.gcd_rec]
  rcases (by omega : g % 3 = 1 ∨ g % 3 = 2) with q | q <;> rw [q] <;> decide
theorem p23_dvd {n : Nat} (hn : p23 n) : ∀ x : Nat, 0 < x → x ∣ n → p23 x := by
  intro x
  induction x using Nat.strongRecOn with
  | ind x ih =>
    intro x0 hd
    by_cases c2 : x % 2 = 0
    · have e : x = 2 * (x / 2) := by omega
      have := ih (x / 2) (by omega) (by omega) (Nat.dvd_trans ⟨2, by omega⟩ hd)
      rw [e]
      exact p23_mul (p23_4 (by omega)) this
    · by_cases c3 : x % 3 = 0
      · have e : x = 3 * (x / 3) := by omega
        have := ih (x / 3) (by omega) (by omega) (Nat.dvd_trans ⟨3, by omega⟩ hd)
        rw [e]
        exact p23_mul (p23_4 (by omega)) this
      · obtain ⟨a, b, rfl⟩ := hn
        have co : Nat.Coprime x (2 ^ a * 3 ^ b) := Nat.Coprime.mul_right (Nat.Coprime.pow_right a (cop2 (by omega))) (Nat.Coprime.pow_right b (cop3 c3))
        have := Nat.Coprime.eq_one_of_dvd co hd
        rw [this]
        exact ⟨0, 0, rfl⟩
theorem p23_f {x k : Nat} (h : p23 x) (hk : k < 4) : cg' (pQ k) (x ^ (pQ k - 1)) 1 := by
  obtain ⟨a, b, rfl⟩ := h
  obtain ⟨h2, h3⟩ := f23 hk
  have e : (2 ^ a * 3 ^ b) ^ (pQ k - 1) = (2 ^ (pQ k - 1)) ^ a * (3 ^ (pQ k - 1)) ^ b := by
    rw [Nat.mul_pow, ← Nat.pow_mul, ← Nat.pow_mul, Nat.mul_comm a, Nat.mul_comm b, Nat.pow_mul, Nat.pow_mul]
  rw [e]
  have := (h2.pow a).mul (h3.pow b)
  rw [Nat.one_pow, Nat.one_pow, Nat.mul_one] at this
  exact this
variable {Y : Ly} {ρ : Nat → Nat}
theorem rnN_b (Y : Ly) : ∀ p, rnN Y p ≤ p ∧ (1 ≤ p → 1 ≤ rnN Y p)
  | 0 => ⟨Nat.le_refl _, fun h => by omega⟩
  | p + 1 => by
    have := rnN_b Y p
    rw [rnN]
    by_cases c : faB Y p = true
    · rw [if_pos c]; omega
    · rw [if_neg c]; omega
theorem prN_23 (Y : Ly) : ∀ p, p ≤ 4 → p23 (prN Y p)
  | 0, _ => ⟨0, 0, rfl⟩
  | p + 1, h => by
    have b := rnN_b Y (p + 1)
    rw [prN]
    exact p23_mul (prN_23 Y p (by omega)) (p23_4 ⟨b.2 (by omega), by omega⟩)
theorem Hn_23 (ok : yOk Y) : ∀ m, m ≤ yL Y → p23 (Hn (yF Y) (List.range m))
  | 0, _ => ⟨0, 0, rfl⟩
  | m + 1, h => by
    have c := cnt_3 ok (m := m) (by omega)
    rw [Hn_succ]
    exact p23_mul (p23_4 (by omega)) (Hn_23 ok m (by omega))
theorem na_23 (ok : yOk Y) : p23 (yNa Y) := by
  unfold yNa
  rw [← prN_PP ok]
  exact p23_mul (prN_23 Y (yV Y) (by have := ok.2.2.2.1; omega)) (Hn_23 ok (yL Y) (Nat.le_refl _))
theorem ob_f (ok : yOk Y) (w : yRw Y ρ) {k : Nat} (hk : k < 4) : cg' (pQ k) (obN Y ρ ^ (pQ k - 1)) 1 := by
  have b := obal_b ok w
  exact p23_f (p23_dvd (na_23 ok) (obN Y ρ) (by omega) ⟨alN Y ρ, (ob_al ok w).symm⟩) hk
/-- a term of both is one -/
theorem term_one {p v tm o al bl un : Nat} (hp : 2 ≤ p) (fo : cg' p (o ^ (p - 1)) 1) (hv : cg' p v (tm * o)) (hu : cg' p un (o * bl)) : cg' p (v * un ^ (p - 2)) (tm * bl ^ (p - 2)) ∧ (un % p = 0 ↔ bl % p = 0) := by
  have e1 : tm * o * (o * bl) ^ (p - 2) = o ^ (p - 1) * (tm * bl ^ (p - 2)) := by
    rw [Nat.mul_pow, show p - 1 = (p - 2) + 1 by omega, Nat.pow_succ]
    grind
  constructor
  · have a := hv.mul (hu.pow (p - 2))
    rw [e1] at a
    have b := fo.mul (Eq.refl ((tm * bl ^ (p - 2)) % p) : cg' p (tm * bl ^ (p - 2)) (tm * bl ^ (p - 2)))
    rw [Nat.one_mul] at b
    exact a.trans b
  · constructor
    · intro z
      have z' : (o * bl) % p = 0 := by rw [← hu]; exact z
      have c : cg' p (o ^ (p - 1) * bl) (0 * o ^ (p - 2)) := by
        have e2 : o ^ (p - 1) * bl = (o * bl) * o ^ (p - 2) := by
          rw [show p - 1 = (p - 2) + 1 by omega, Nat.pow_succ]
          grind
        rw [e2]
        exact (show cg' p (o * bl) 0 by unfold cg'; rw [z', Nat.zero_mod]).mul rfl
      rw [Nat.zero_mul] at c
      have d := (fo.mul (Eq.refl (bl % p) : cg' p bl bl)).symm.trans c
      rw [Nat.one_mul] at d
      unfold cg' at d
      rw [d, Nat.zero_mod]
    · intro z
      rw [hu, Nat.mul_mod, z, Nat.mul_zero, Nat.zero_mod]
end BVa
