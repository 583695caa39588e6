/-- the numbers of the ends in a side, together -/
def flw (en : Nat → Int) (s : Nat) : Nat → Int
  | 0 => 0
  | n + 1 => flw en s n + (if s / 2 ^ n % 2 = 0 then 0 else en n)
theorem flw_bd {en : Nat → Int} {s : Nat} {M : Int} (hM : 0 ≤ M) : ∀ n, (∀ i, i < n → -M ≤ en i ∧ en i ≤ M) → -((n : Int) * M) ≤ flw en s n ∧ flw en s n ≤ (n : Int) * M
  | 0, _ => by rw [flw]; omega
  | n + 1, h => by
    have a : -((n : Int) * M) ≤ flw en s n ∧ flw en s n ≤ (n : Int) * M := flw_bd hM n (fun i hi => h i (by omega))
    have b := h n (by omega)
    rw [flw, Int.natCast_add, Int.add_mul]
    generalize (n : Int) * M = N at *
    by_cases c : s / 2 ^ n % 2 = 0
    · rw [if_pos c]; omega
    · rw [if_neg c]; omega
theorem bit_z {s i : Nat} (hs : s < 2147483648) (hi : i < 32) : ((I s >>> (I i &&& 31)) &&& 1 = 0) = (s / 2 ^ i % 2 = 0) ∧ ((I s >>> (I i &&& 31)) &&& 1 = 1) = (¬ s / 2 ^ i % 2 = 0) := by
  have h1 : s / 2 ^ i ≤ s := Nat.div_le_self _ _
  have key : ∀ d : Nat, d = s / 2 ^ i → ((I s >>> (I i &&& 31)) &&& 1 = 0) = (d % 2 = 0) ∧ ((I s >>> (I i &&& 31)) &&& 1 = 1) = (¬ d % 2 = 0) := by
    intro d hd
    rw [I_shr hi hs, ← hd, show (1 : Int32) = I ((1 : Nat) : Int) from rfl, I_and (by omega) (by omega), Nat.and_one_is_mod]
    constructor
    · exact (I_eqN (b := 0) (by omega) (by omega))
    · rw [I_eqN (by omega) (by omega)]
      exact propext ⟨fun h => by omega, fun h => by omega⟩
  exact key _ rfl
section F89
variable {sh : List Sh} {f : Nat} {S : St} {t l n s : Nat} {en : Nat → Int}
theorem c_flow (hf : 1000 ≤ f) (hs : s < 2147483648) (hn : n ≤ 6) (s2 : sI S t 2 = I n) (hk : ∀ i, i < n → sA S (t + 2) i = I (en i)) : F_X1_flow sh f S t (I s) = some (I (flw en s n)) := by
  have key : ∀ (r j nf : Nat), j + r = n → r < nf → F_X1_flow_L4 sh f S t (I s) nf (I (flw en s j)) (I j) = some (I (flw en s n)) := by
    intro r
    induction r with
    | zero =>
      intro j nf h1 h2
      obtain ⟨nf, rfl⟩ : ∃ e, nf = e + 1 := ⟨nf - 1, by omega⟩
      have : j = n := by omega
      subst this
      rw [F_X1_flow_L4, if_pos (by rw [s2, I_leN (by omega) (by omega)]; omega)]
    | succ r ih =>
      intro j nf h1 h2
      obtain ⟨nf, rfl⟩ : ∃ e, nf = e + 1 := ⟨nf - 1, by omega⟩
      have c1 : ¬ sI S t 2 ≤ I j := by rw [s2, I_leN (by omega) (by omega)]; omega
      have cl : (I (j : Int)).toNatClampNeg = j := I_clN (by omega)
      have c2 : ¬ (I (j : Int) < 0 ∨ 6 ≤ j) := by
        rw [show (0 : Int32) = I 0 from rfl, I_lt (by omega) (by omega)]; omega
      have nx : I (j : Int) + 1 = I ((j + 1 : Nat) : Int) := by rw [show (1 : Int32) = I 1 from rfl, I_add]; rfl
      have ih' := ih (j + 1) nf (by omega) (by omega)
      rw [flw] at ih'
      rw [F_X1_flow_L4, if_neg c1]
      simp only [(bit_z hs (show j < 32 by omega)).1, cl, if_neg c2, hk j (by omega), bnd, nx, I_add]
      by_cases cb : s / 2 ^ j % 2 = 0
      · rw [if_pos cb] at ih' ⊢
        rw [Int.add_zero] at ih'
        exact ih'
      · rw [if_neg cb] at ih' ⊢
        exact ih'
  exact key n 0 f (by omega) (by omega)
theorem r_flow (hf : 1000 ≤ f) (hs : s < 2147483648) (hn : n ≤ 6) (s2 : sI S l 2 = I n) (hk : ∀ i, i < n → sA S (l + 2) i = I (en i)) : F_X12_flow sh f S l (I s) = some (I (flw en s n)) := by
  have key : ∀ (r j nf : Nat), j + r = n → r < nf → F_X12_flow_L4 sh f S l (I s) nf (I (flw en s j)) (I j) = some (I (flw en s n)) := by
    intro r
    induction r with
    | zero =>
      intro j nf h1 h2
      obtain ⟨nf, rfl⟩ : ∃ e, nf = e + 1 := ⟨nf - 1, by omega⟩
      have : j = n := by omega
      subst this
      rw [F_X12_flow_L4, if_pos (by rw [s2, I_leN (by omega) (by omega)]; omega)]
    | succ r ih =>
      intro j nf h1 h2
      obtain ⟨nf, rfl⟩ : ∃ e, nf = e + 1 := ⟨nf - 1, by omega⟩
      have c1 : ¬ sI S l 2 ≤ I j := by rw [s2, I_leN (by omega) (by omega)]; omega
      have cl : (I (j : Int)).toNatClampNeg = j := I_clN (by omega)
      have c2 : ¬ (I (j : Int) < 0 ∨ 6 ≤ j) := by
        rw [show (0 : Int32) = I 0 from rfl, I_lt (by omega) (by omega)]; omega
      have nx : I (j : Int) + 1 = I ((j + 1 : Nat) : Int) := by rw [show (1 : Int32) = I 1 from rfl, I_add]; rfl
      have zz : I (flw en s j) + 0 = I (flw en s j + 0) := by rw [show (0 : Int32) = I 0 from rfl, I_add]
      have ih' := ih (j + 1) nf (by omega) (by omega)
      rw [flw] at ih'
      rw [F_X12_flow_L4, if_neg c1]
      simp only [(bit_z hs (show j < 32 by omega)).2, cl, if_neg c2, hk j (by omega), bnd, nx, zz, I_add]
      by_cases cb : s / 2 ^ j % 2 = 0
      · rw [if_pos cb] at ih'
        rw [if_neg (fun h => h cb)]
        exact ih'
      · rw [if_neg cb] at ih'
        rw [if_pos cb]
        exact ih'
  exact key n 0 f (by omega) (by omega)
end F89
