/-! NUMBERS WITHOUT A PRIME ABOVE 97, by their exponents. -/
section BAa
def pT : List Nat := [2, 3, 5, 7, 11, 13, 17, 19, 23, 29, 31, 37, 41, 43, 47, 53, 59, 61, 67, 71, 73, 79, 83, 89, 97]
def pP (i : Nat) : Nat := pT.getD i 1
theorem pP_tf : ∀ i : Fin 25, v_tf v_T1 i.val = I (pP i.val : Int) ∧ 2 ≤ pP i.val ∧ pP i.val ≤ 97 := by decide +kernel
theorem pP_co : ∀ i : Fin 25, ∀ j : Fin 25, i ≠ j → Nat.gcd (pP i.val) (pP j.val) = 1 := by decide +kernel
theorem pP_pr : ∀ i : Fin 25, ∀ d : Fin 98, d.val ∣ pP i.val → d.val = 1 ∨ d.val = pP i.val := by decide +kernel
theorem pP_ge (i : Nat) : 1 ≤ pP i := by
  by_cases c : i < 25
  · have := (pP_tf ⟨i, c⟩).2.1
    show 1 ≤ pP i
    have e : pP (⟨i, c⟩ : Fin 25).val = pP i := rfl
    omega
  · unfold pP
    rw [List.getD_eq_getElem?_getD, List.getElem?_eq_none (by show 25 ≤ i; omega)]
    exact Nat.le_refl 1
def pw (e : Nat → Nat) : Nat → Nat
  | 0 => 1
  | m + 1 => pw e m * pP m ^ e m
theorem pw_cg {e e' : Nat → Nat} : ∀ {m : Nat}, (∀ i, i < m → e i = e' i) → pw e m = pw e' m
  | 0, _ => rfl
  | m + 1, h => by rw [pw, pw, pw_cg (m := m) (fun i hi => h i (by omega)), h m (by omega)]
theorem pw_pos (e : Nat → Nat) : ∀ m, 0 < pw e m
  | 0 => by rw [pw]; omega
  | m + 1 => by
    rw [pw]
    exact Nat.mul_pos (pw_pos e m) (Nat.pow_pos (pP_ge m))
theorem pw_add (e e' : Nat → Nat) : ∀ m, pw (fun i => e i + e' i) m = pw e m * pw e' m
  | 0 => rfl
  | m + 1 => by
    rw [pw, pw, pw, pw_add e e' m, Nat.pow_add]
    grind
theorem pw_0 : ∀ m, pw (fun _ => 0) m = 1
  | 0 => rfl
  | m + 1 => by rw [pw, pw_0 m, Nat.pow_zero]
theorem pw_mono {e e' : Nat → Nat} : ∀ {m : Nat}, (∀ i, i < m → e i ≤ e' i) → pw e m ≤ pw e' m
  | 0, _ => Nat.le_refl _
  | m + 1, h => by
    rw [pw, pw]
    exact Nat.mul_le_mul (pw_mono (m := m) (fun i hi => h i (by omega))) (Nat.pow_le_pow_right (pP_ge m) (h m (by omega)))
theorem pw_up (e : Nat → Nat) {i v : Nat} : ∀ {m : Nat}, i < m → pw (up1 e i v) m * pP i ^ e i = pw e m * pP i ^ v
  | 0, h => by omega
  | m + 1, h => by
    rw [pw, pw]
    by_cases c : i = m
    · subst c
      rw [pw_cg (e := up1 e i v) (e' := e) (m := i) (fun j hj => by rw [up1_if, if_neg (by omega)]), up1_if, if_pos rfl]
      grind
    · have ih := pw_up e (i := i) (v := v) (m := m) (by omega)
      rw [up1_if, if_neg (by omega)]
      grind
theorem pw_cop (e : Nat → Nat) {i : Nat} (hi : i < 25) (h : e i = 0) : ∀ m, m ≤ 25 → Nat.Coprime (pP i) (pw e m)
  | 0, _ => by rw [pw]; exact Nat.coprime_one_right _
  | m + 1, hm => by
    rw [pw]
    refine Nat.Coprime.mul_right (pw_cop e hi h m (by omega)) ?_
    by_cases c : i = m
    · rw [← c, h, Nat.pow_zero]; exact Nat.coprime_one_right _
    · exact Nat.Coprime.pow_right _ (pP_co ⟨i, hi⟩ ⟨m, by omega⟩ (fun q => c (congrArg Fin.val q)))
/-- the exponent is what can be divided out -/
theorem pw_div (e : Nat → Nat) {i : Nat} (hi : i < 25) : ∃ r, pw e 25 = r * pP i ^ e i ∧ Nat.Coprime (pP i) r := by
  have u := pw_up e (i := i) (v := 0) (m := 25) hi
  rw [Nat.pow_zero, Nat.mul_one] at u
  exact ⟨pw (up1 e i 0) 25, u.symm, pw_cop _ hi (by rw [up1_if, if_pos rfl]) 25 (by omega)⟩
theorem pr_cop {i n : Nat} (hi : i < 25) (h : ¬ pP i ∣ n) : Nat.Coprime n (pP i) := by
  have p := pP_tf ⟨i, hi⟩
  have e : pP (⟨i, hi⟩ : Fin 25).val = pP i := rfl
  have gl : Nat.gcd n (pP i) ≤ pP i := Nat.gcd_le_right n (pP_ge i)
  rcases pP_pr ⟨i, hi⟩ ⟨Nat.gcd n (pP i), by omega⟩ (Nat.gcd_dvd_right _ _) with q | q
  · exact q
  · exact absurd (by have := Nat.gcd_dvd_left n (pP i); rw [show Nat.gcd n (pP i) = pP i from q] at this; exact this) h
theorem pw_all (e : Nat → Nat) {n : Nat} : ∀ m, m ≤ 25 → (∀ i, i < m → e i = 0 ∨ ¬ pP i ∣ n) → Nat.Coprime n (pw e m)
  | 0, _, _ => by rw [pw]; exact Nat.coprime_one_right _
  | m + 1, hm, h => by
    rw [pw]
    refine Nat.Coprime.mul_right (pw_all e m (by omega) (fun i hi => h i (by omega))) ?_
    rcases h m (by omega) with q | q
    · rw [q, Nat.pow_zero]; exact Nat.coprime_one_right _
    · exact Nat.Coprime.pow_right _ (pr_cop (by omega) q)
/-- exponents of a small number -/
def vx (p : Nat) : Nat → Nat → Nat
  | 0, _ => 0
  | k + 1, h => if h % p = 0 then vx p k (h / p) + 1 else 0
def exh (h i : Nat) : Nat := vx (pP i) 7 h
theorem exh_all : ∀ h : Fin 100, h.val ≠ 0 → pw (exh h.val) 25 = h.val := by decide +kernel
theorem exh_12 : ∀ c : Fin 5, c.val ≠ 0 → ∀ i : Fin 25, exh c.val i.val ≤ exh 12 i.val := by decide +kernel
theorem exh_60 : ∀ c : Fin 7, c.val ≠ 0 → ∀ i : Fin 25, exh c.val i.val ≤ exh 60 i.val := by decide +kernel
/-- two fractions in lowest terms that are alike -/
theorem low_one {t t' N : Int} {l l' D : Nat} (hD : 0 < D) (hl : 0 < l) (hl' : 0 < l') (e : t * D = N * l) (e' : t' * D = N * l') (g : Nat.gcd t.natAbs l = 1) (g' : Nat.gcd t'.natAbs l' = 1) : t = t' ∧ l = l' := by
  have x : t * l' = t' * l := by
    have a : (t * l') * D = (t' * l) * D := by
      have : (t * l') * D = (t * D) * l' := by grind
      rw [this, e]
      have : (t' * l) * D = (t' * D) * l := by grind
      rw [this, e']
      grind
    exact Int.eq_of_mul_eq_mul_right (by omega) a
  have y : t.natAbs * l' = t'.natAbs * l := by
    have := congrArg Int.natAbs x
    rw [Int.natAbs_mul, Int.natAbs_mul, Int.natAbs_natCast, Int.natAbs_natCast] at this
    exact this
  have d1 : l ∣ l' := Nat.Coprime.dvd_of_dvd_mul_left (Nat.Coprime.symm g) (by rw [y]; exact Nat.dvd_mul_left _ _)
  have d2 : l' ∣ l := Nat.Coprime.dvd_of_dvd_mul_left (Nat.Coprime.symm g') (by rw [← y]; exact Nat.dvd_mul_left _ _)
  have le := Nat.dvd_antisymm d1 d2
  subst le
  exact ⟨Int.eq_of_mul_eq_mul_right (by omega) x, rfl⟩
end BAa
