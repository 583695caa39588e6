def sumE (en : Nat → Int) : Nat → Int
  | 0 => 0
  | n + 1 => sumE en n + en n
theorem ones_bit : ∀ n : Fin 7, ∀ i : Fin 7, i.val < n.val → (2 ^ n.val - 1) / 2 ^ i.val % 2 = 1 := by decide +kernel
theorem flw_all {en : Nat → Int} {n : Nat} (hn : n ≤ 6) : ∀ j, j ≤ n → flw en (2 ^ n - 1) j = sumE en j
  | 0, _ => rfl
  | j + 1, h => by
    have b : (2 ^ n - 1) / 2 ^ j % 2 = 1 := ones_bit ⟨n, by omega⟩ ⟨j, by omega⟩ (by show j < n; omega)
    rw [flw, sumE, flw_all hn j (by omega), b, if_neg (by omega)]
theorem sumE_bd {en : Nat → Int} : ∀ n, (∀ i, i < n → -10000 ≤ en i ∧ en i ≤ 10000) → -10000 * (n : Int) ≤ sumE en n ∧ sumE en n ≤ 10000 * (n : Int)
  | 0, _ => by rw [sumE]; omega
  | n + 1, h => by
    have a : -10000 * (n : Int) ≤ sumE en n ∧ sumE en n ≤ 10000 * (n : Int) := sumE_bd n (fun i hi => h i (by omega))
    have b := h n (by omega)
    rw [sumE]
    omega
section T92
variable {sh : List Sh} {f : Nat} {S : St} {t l n : Nat} {en : Nat → Int}
theorem c_total (hf : 1000 ≤ f) (hn : n ≤ 6) (s2 : sI S t 2 = I n) (hk : ∀ i, i < n → sA S (t + 2) i = I (en i)) : F_X1_total sh f S t = some (I (sumE en n)) := by
  have p6 : 2 ^ n ≤ 2 ^ 6 := Nat.pow_le_pow_right (by omega) hn
  have p0 : 0 < 2 ^ n := Nat.two_pow_pos n
  have e : (1 : Int32) <<< (I n &&& 31) - 1 = I ((2 ^ n - 1 : Nat) : Int) := by
    rw [one_shl (by omega), show (1 : Int32) = I 1 from rfl, I_sub]
    congr 1
    omega
  unfold F_X1_total
  rw [s2, e, c_flow hf (by omega) hn s2 hk, Option.bind_some, flw_all hn n (Nat.le_refl _)]
theorem r_total (hf : 1000 ≤ f) (hn : n ≤ 6) (s2 : sI S l 2 = I n) (hk : ∀ i, i < n → -10000 ≤ en i ∧ en i ≤ 10000 ∧ sA S (l + 2) i = I (en i)) : F_X12_isEven_ sh f S t l = some (if sumE en n = 0 then 1 else 0) := by
  have key : ∀ (r j nf : Nat), j + r = n → r < nf → F_X12_isEven__L4 sh f S t l nf (I (sumE en j)) (I j) = some (if sumE en n = 0 then 1 else 0) := by
    intro r
    induction r with
    | zero =>
      intro j nf h1 h2
      obtain ⟨nf, rfl⟩ : ∃ e, nf = e + 1 := ⟨nf - 1, by omega⟩
      have : j = n := by omega
      subst this
      have bd := sumE_bd (en := en) j (fun i hi => ⟨(hk i hi).1, (hk i hi).2.1⟩)
      have q : (I (sumE en j) = 0) = (sumE en j = 0) := by rw [show (0 : Int32) = I 0 from rfl, I_eq (by omega) (by omega)]
      rw [F_X12_isEven__L4, if_pos (by rw [s2, I_leN (by omega) (by omega)]; omega)]
      simp only [q]
      by_cases c : sumE en j = 0
      · rw [if_pos c, if_pos c]
      · rw [if_neg c, if_neg c]
    | succ r ih =>
      intro j nf h1 h2
      obtain ⟨nf, rfl⟩ : ∃ e, nf = e + 1 := ⟨nf - 1, by omega⟩
      have c1 : ¬ sI S l 2 ≤ I j := by rw [s2, I_leN (by omega) (by omega)]; omega
      have cl : (I (j : Int)).toNatClampNeg = j := I_clN (by omega)
      have c2 : ¬ (I (j : Int) < 0 ∨ 6 ≤ j) := by
        rw [show (0 : Int32) = I 0 from rfl, I_lt (by omega) (by omega)]; omega
      have nx : I (j : Int) + 1 = I ((j + 1 : Nat) : Int) := by rw [show (1 : Int32) = I 1 from rfl, I_add]; rfl
      rw [F_X12_isEven__L4, if_neg c1]
      simp only [cl, if_neg c2, (hk j (by omega)).2.2, bnd, nx, I_add]
      exact ih (j + 1) nf (by omega) (by omega)
  exact key n 0 f (by omega) (by omega)
end T92
