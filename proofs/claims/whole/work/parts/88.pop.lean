/-- how many bits are set, of the lowest k -/
def popN : Nat → Nat → Nat
  | 0, _ => 0
  | k + 1, m => m % 2 + popN k (m / 2)
/-- the lowest bit that is set, of the lowest k -/
def tzN : Nat → Nat → Nat
  | 0, _ => 0
  | k + 1, m => if m % 2 = 1 then 0 else 1 + tzN k (m / 2)
def stZ : St := (fun _ _ => 0, fun _ _ => 0, fun _ _ => 0, fun _ _ => 0, fun _ _ => none)
theorem pop_all : ∀ a b : Fin 64, F_J6_bitCount_0f7a4 [] 0 stZ (I ((64 * a.val + b.val : Nat) : Int)) = some (I (popN 12 (64 * a.val + b.val) : Int)) := by decide +kernel
theorem tz_all : ∀ a b : Fin 64, 64 * a.val + b.val ≠ 0 → F_J6_numberOfTrailingZeros_0f7a4 [] 0 stZ (I ((64 * a.val + b.val : Nat) : Int)) = some (I (tzN 12 (64 * a.val + b.val) : Int)) := by decide +kernel
theorem c_pop {sh : List Sh} {f : Nat} {S : St} {m : Nat} (h : m < 4096) : F_J6_bitCount_0f7a4 sh f S (I m) = some (I (popN 12 m)) := by
  have := pop_all ⟨m / 64, by omega⟩ ⟨m % 64, by omega⟩
  simp only [show 64 * (m / 64) + m % 64 = m by omega] at this
  exact this
theorem c_tz {sh : List Sh} {f : Nat} {S : St} {m : Nat} (h : m < 4096) (h0 : m ≠ 0) : F_J6_numberOfTrailingZeros_0f7a4 sh f S (I m) = some (I (tzN 12 m)) := by
  have := tz_all ⟨m / 64, by omega⟩ ⟨m % 64, by omega⟩
  simp only [show 64 * (m / 64) + m % 64 = m by omega] at this
  exact this h0
theorem popN_le : ∀ k m, popN k m ≤ k
  | 0, _ => Nat.le_refl _
  | k + 1, m => by
    have := popN_le k (m / 2)
    rw [popN]
    omega
theorem popN_add : ∀ (k a b : Nat), a &&& b = 0 → popN k (a ||| b) = popN k a + popN k b
  | 0, _, _, _ => rfl
  | k + 1, a, b, h => by
    have h2 : (a / 2) &&& (b / 2) = 0 := by
      rw [← Nat.and_div_two, h]
    have ih := popN_add k (a / 2) (b / 2) h2
    have h1 : (a &&& b) % 2 = 0 := by rw [h]
    rw [popN, popN, popN, Nat.or_div_two, ih]
    have e1 : (a &&& b) % 2 = (a % 2) &&& (b % 2) := by
      have := Nat.and_mod_two_pow (a := a) (b := b) (n := 1)
      simpa using this
    have e2 : (a ||| b) % 2 = (a % 2) ||| (b % 2) := by
      have := Nat.or_mod_two_pow (a := a) (b := b) (n := 1)
      simpa using this
    rw [e1] at h1
    have key : ∀ x y : Nat, x < 2 → y < 2 → x &&& y = 0 → x ||| y = x + y := by
      intro x y hx hy hh
      have hx' : x = 0 ∨ x = 1 := by omega
      have hy' : y = 0 ∨ y = 1 := by omega
      rcases hx' with rfl | rfl <;> rcases hy' with rfl | rfl
      · rfl
      · rfl
      · rfl
      · exact absurd hh (by decide)
    rw [e2, key _ _ (Nat.mod_lt _ (by omega)) (Nat.mod_lt _ (by omega)) h1]
    omega
