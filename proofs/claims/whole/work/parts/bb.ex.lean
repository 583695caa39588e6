/-! THE CLASS's exact sum: clear, exponentOf, widen. -/
section BBa
variable {sh : List Sh} {f : Nat} {S : St}
theorem J_div {a b : Int} (ha : 0 ≤ a ∧ a < 9223372036854775808) (hb : 0 < b ∧ b < 9223372036854775808) : J a / J b = J (a / b) := by
  have h1 : 0 ≤ a / b := Int.ediv_nonneg ha.1 (by omega)
  have h2 : a / b ≤ a := Int.ediv_le_self _ ha.1
  rw [← Int64.toInt_inj, Int64.toInt_div, J_toInt (by omega), J_toInt (by omega), J_toInt (by omega), Int.tdiv_eq_ediv_of_nonneg ha.1]
  exact Int.bmod_eq_of_le (by omega) (by omega)
theorem J_rem {a b : Int} (ha : 0 ≤ a ∧ a < 9223372036854775808) (hb : 0 < b ∧ b < 9223372036854775808) : J a - J a / J b * J b = J (a % b) := by
  rw [J_div ha hb, J_mul, J_sub]
  congr 1
  have := Int.emod_def a b
  rw [this, Int.mul_comm]
theorem c_xclear (hf : 1000 ≤ f) (S : St) : ∃ S', F_X2_clear sh f S 40 = some S' ∧ (∀ i, i < 25 → sA S' 41 i = 0) ∧ (∀ i, i < 12 → sL S' 42 i = 0) ∧ ∀ x, x ≠ 41 → x ≠ 42 → Sm S S' x := by
  have l2 : ∀ (d k nf : Nat) (T : St), k + d = 12 → d < nf → (∀ i, i < k → sL T 42 i = 0) → ∃ T', F_X2_clear_L23 sh f 40 nf T (I k) = some T' ∧ (∀ i, i < 12 → sL T' 42 i = 0) ∧ ∀ x, x ≠ 42 → Sm T T' x := by
    intro d
    induction d with
    | zero =>
      intro k nf T hk hn g
      obtain ⟨nf, rfl⟩ : ∃ e, nf = e + 1 := ⟨nf - 1, by omega⟩
      have : k = 12 := by omega
      subst this
      rw [F_X2_clear_L23, if_pos (by decide)]
      exact ⟨T, rfl, g, fun _ _ => Sm.rfl⟩
    | succ d ih =>
      intro k nf T hk hn g
      obtain ⟨nf, rfl⟩ : ∃ e, nf = e + 1 := ⟨nf - 1, by omega⟩
      obtain ⟨T', t0, t1, t2⟩ := ih (k + 1) nf (uL T 42 k 0) (by omega) (by omega) (fun i hi => by
        rw [sL_uL, if_pos rfl, up1_if]
        by_cases e : i = k
        · rw [if_pos e]
        · rw [if_neg e]; exact g i (by omega))
      rw [F_X2_clear_L23, if_neg (by rw [show (12 : Int32) = I ((12 : Nat) : Int) from rfl, I_leN (by omega) (by omega)]; omega), I_clN (show k < _ by omega), if_neg (I_bnd (show k < 12 by omega) (by omega))]
      simp only [bnd, I_suc]
      exact ⟨T', t0, t1, fun x hx => (Sm.rfl.uL hx).trans (t2 x hx)⟩
  have l1 : ∀ (d k nf : Nat) (T : St), k + d = 25 → d < nf → (∀ i, i < k → sA T 41 i = 0) → ∃ T', F_X2_clear_L2 sh f 40 nf T (I k) = some T' ∧ (∀ i, i < 25 → sA T' 41 i = 0) ∧ (∀ i, i < 12 → sL T' 42 i = 0) ∧ ∀ x, x ≠ 41 → x ≠ 42 → Sm T T' x := by
    intro d
    induction d with
    | zero =>
      intro k nf T hk hn g
      obtain ⟨nf, rfl⟩ : ∃ e, nf = e + 1 := ⟨nf - 1, by omega⟩
      have : k = 25 := by omega
      subst this
      obtain ⟨T', t0, t1, t2⟩ := l2 12 0 f T (by omega) (by omega) (fun i hi => by omega)
      have t0' : F_X2_clear_L23 sh f 40 f T 0 = some T' := t0
      rw [F_X2_clear_L2, if_pos (by decide), t0']
      exact ⟨T', rfl, fun i hi => ((t2 41 (by omega)).A i).trans (g i hi), t1, fun x _ hx => t2 x hx⟩
    | succ d ih =>
      intro k nf T hk hn g
      obtain ⟨nf, rfl⟩ : ∃ e, nf = e + 1 := ⟨nf - 1, by omega⟩
      obtain ⟨T', t0, t1, t2, t3⟩ := ih (k + 1) nf (uA T 41 k 0) (by omega) (by omega) (fun i hi => by
        rw [sA_uA, if_pos rfl, up1_if]
        by_cases e : i = k
        · rw [if_pos e]
        · rw [if_neg e]; exact g i (by omega))
      rw [F_X2_clear_L2, if_neg (by rw [show (25 : Int32) = I ((25 : Nat) : Int) from rfl, I_leN (by omega) (by omega)]; omega), I_clN (show k < _ by omega), if_neg (I_bnd (show k < 25 by omega) (by omega))]
      simp only [bnd, I_suc]
      exact ⟨T', t0, t1, t2, fun x hx hy => (Sm.rfl.uA hx).trans (t3 x hx hy)⟩
  exact l1 25 0 f S (by omega) (by omega) (fun i hi => by omega)
theorem c_expo (hf : 1000 ≤ f) {e : Nat → Nat} {i : Nat} (hi : i < 25) (hd : pw e 25 < 9223372036854775808) : F_X2_exponentOf sh f S (v_tf v_T1 i) (J (pw e 25 : Nat)) = some (I (e i)) ∧ e i < 63 := by
  obtain ⟨p1, p2, p3⟩ := pP_tf ⟨i, hi⟩
  have pe : pP (⟨i, hi⟩ : Fin 25).val = pP i := rfl
  have p1' : v_tf v_T1 i = I (pP i : Int) := p1
  obtain ⟨r, er, co⟩ := pw_div e hi
  have pos := pw_pos e 25
  have r0 : 0 < r := by
    by_cases c : r = 0
    · rw [c, Nat.zero_mul] at er; omega
    · omega
  have e63 : e i < 63 := by
    have a1 : 2 ^ e i ≤ pP i ^ e i := Nat.pow_le_pow_left (by omega) _
    have a2 : pP i ^ e i ≤ r * pP i ^ e i := Nat.le_mul_of_pos_left _ r0
    by_cases c : e i < 63
    · exact c
    · have : 2 ^ 63 ≤ 2 ^ e i := Nat.pow_le_pow_right (by omega) (by omega)
      omega
  refine ⟨?_, e63⟩
  have pc : (I (pP i : Int)).toInt64 = J (pP i : Int) := J_I (by omega)
  have lp : ∀ (d k nf : Nat), k + d = e i → d < nf → F_X2_exponentOf_L5 sh f S (I (pP i : Int)) (J (pw e 25 : Nat)) nf (I k) (J (r * pP i ^ d : Nat)) = some (I (e i)) := by
    intro d
    induction d with
    | zero =>
      intro k nf hk hn
      obtain ⟨nf, rfl⟩ : ∃ e, nf = e + 1 := ⟨nf - 1, by omega⟩
      have rl : r ≤ pw e 25 := by
        rw [er]
        exact Nat.le_mul_of_pos_right _ (Nat.pow_pos (pP_ge i))
      have nd : ¬ r % pP i = 0 := by
        intro q
        have : pP i ∣ r := Nat.dvd_of_mod_eq_zero q
        have := Nat.Coprime.eq_one_of_dvd co this
        omega
      rw [F_X2_exponentOf_L5, Nat.pow_zero, Nat.mul_one, pc, J_rem (by omega) (by omega), show (0 : Int64) = J 0 from rfl]
      have ei : (r : Int) % (pP i : Int) = ((r % pP i : Nat) : Int) := rfl
      have rm : r % pP i < pP i := Nat.mod_lt _ (pP_ge i)
      rw [ei]
      have l2 := (lgz (a := ((r % pP i : Nat) : Int)) (c := 0) (by omega) (by omega)).2.2.2
      have l1 := (lgz (a := (r : Int)) (c := 0) (by omega) (by omega)).2.1
      simp only [l1, l2]
      rw [if_neg (by omega), if_neg (by rw [show (64 : Int32) = I ((64 : Nat) : Int) from rfl, I_leN (by omega) (by omega)]; omega), if_neg (by rw [J_eq (by omega) (by omega)]; omega), if_neg (by omega), show k = e i by omega]
    | succ d ih =>
      intro k nf hk hn
      obtain ⟨nf, rfl⟩ : ∃ e, nf = e + 1 := ⟨nf - 1, by omega⟩
      have q : r * pP i ^ (d + 1) = r * pP i ^ d * pP i := by rw [Nat.pow_succ, Nat.mul_assoc]
      have rl : r * pP i ^ (d + 1) ≤ pw e 25 := by
        rw [er]
        exact Nat.mul_le_mul_left _ (Nat.pow_le_pow_right (pP_ge i) (by omega))
      have r1 : 0 < r * pP i ^ d := Nat.mul_pos r0 (Nat.pow_pos (pP_ge i))
      have r2 : r * pP i ^ d ≤ r * pP i ^ d * pP i := Nat.le_mul_of_pos_right _ (pP_ge i)
      rw [q] at rl
      have md : ((r * pP i ^ d * pP i : Nat) : Int) % (pP i : Int) = 0 := by
        norm_cast
        exact Nat.mul_mod_left _ _
      have dd : ((r * pP i ^ d * pP i : Nat) : Int) / (pP i : Int) = ((r * pP i ^ d : Nat) : Int) := by
        norm_cast
        exact Nat.mul_div_cancel _ (pP_ge i)
      have l1 := (lgz (a := ((r * pP i ^ d * pP i : Nat) : Int)) (c := 0) (by omega) (by omega)).2.1
      have l2 := (lgz (a := 0) (c := 0) (by omega) (by omega)).2.2.2
      rw [F_X2_exponentOf_L5, q, pc, J_rem (by omega) (by omega), J_div (by omega) (by omega), md, dd, show (0 : Int64) = J 0 from rfl]
      simp only [l1, l2, bnd, I_suc]
      rw [if_neg (by omega), if_neg (by rw [show (64 : Int32) = I ((64 : Nat) : Int) from rfl, I_leN (by omega) (by omega)]; omega), if_neg (by rw [J_eq (by omega) (by omega)]; omega), if_pos trivial, if_neg (by rw [J_eq (by omega) (by omega)]; omega)]
      exact ih (k + 1) nf (by omega) (by omega)
  have := lp (e i) 0 f (by omega) (by omega)
  rw [← er] at this
  unfold F_X2_exponentOf
  rw [p1']
  exact this
theorem c_widen (hf : 1000 ≤ f) (S : St) {E e : Nat → Nat} (hE : ∀ i, i < 25 → sA S 41 i = I (E i) ∧ E i < 63) (hd : pw e 25 < 9223372036854775808) : ∃ S', F_X2_widen sh f S 40 (J (pw e 25 : Nat)) = some S' ∧ (∀ i, i < 25 → sA S' 41 i = I ((max (E i) (e i) : Nat) : Int) ∧ max (E i) (e i) < 63) ∧ ∀ x, x ≠ 41 → Sm S S' x := by
  have lp : ∀ (d k nf : Nat) (T : St), k + d = 25 → d < nf → (∀ i, i < 25 → sA T 41 i = I ((if i < k then max (E i) (e i) else E i : Nat) : Int)) → ∃ T', F_X2_widen_L2 sh f 40 (J (pw e 25 : Nat)) nf T (I k) = some T' ∧ (∀ i, i < 25 → sA T' 41 i = I ((max (E i) (e i) : Nat) : Int)) ∧ ∀ x, x ≠ 41 → Sm T T' x := by
    intro d
    induction d with
    | zero =>
      intro k nf T hk hn g
      obtain ⟨nf, rfl⟩ : ∃ e, nf = e + 1 := ⟨nf - 1, by omega⟩
      have : k = 25 := by omega
      subst this
      rw [F_X2_widen_L2, if_pos (by decide)]
      exact ⟨T, rfl, fun i hi => by rw [g i hi, if_pos hi], fun _ _ => Sm.rfl⟩
    | succ d ih =>
      intro k nf T hk hn g
      obtain ⟨nf, rfl⟩ : ∃ e, nf = e + 1 := ⟨nf - 1, by omega⟩
      obtain ⟨x1, x2⟩ := c_expo (sh := sh) (S := T) hf (e := e) (i := k) (by omega) hd
      have Ek := (hE k (by omega)).2
      have a1 : sA T (40 + 1) k = I (E k) := by
        have := g k (by omega)
        rw [if_neg (by omega)] at this
        exact this
      have mx : F_J9_max_7cf53 sh f T (I (E k)) (I (e k)) = some (I ((max (E k) (e k) : Nat) : Int)) := by
        unfold F_J9_max_7cf53
        rw [ite_ltN (by omega) (by omega)]
        by_cases c : E k < e k
        · rw [if_pos c, Nat.max_eq_right (by omega)]
        · rw [if_neg c, Nat.max_eq_left (by omega)]
      have nb : ¬ (I (k : Int) < 0 ∨ 25 ≤ k) := I_bnd (show k < 25 by omega) (by omega)
      obtain ⟨T', t0, t1, t2⟩ := ih (k + 1) nf (uA T 41 k (I ((max (E k) (e k) : Nat) : Int))) (by omega) (by omega) (fun i hi => by
        rw [sA_uA, if_pos rfl, up1_if]
        by_cases q : i = k
        · rw [if_pos q, if_pos (by omega), q]
        · rw [if_neg q, g i hi]
          by_cases p : i < k
          · rw [if_pos p, if_pos (by omega)]
          · rw [if_neg p, if_neg (by omega)])
      rw [F_X2_widen_L2, if_neg (by rw [show (25 : Int32) = I ((25 : Nat) : Int) from rfl, I_leN (by omega) (by omega)]; omega), I_clN (show k < _ by omega), if_neg nb, if_neg nb, x1, Option.bind_some, a1, mx, Option.bind_some, if_neg nb]
      simp only [bnd, I_suc]
      exact ⟨T', t0, t1, fun x hx => (Sm.rfl.uA hx).trans (t2 x hx)⟩
  obtain ⟨T', t0, t1, t2⟩ := lp 25 0 f S (by omega) (by omega) (fun i hi => by rw [if_neg (by omega)]; exact (hE i hi).1)
  refine ⟨T', t0, fun i hi => ⟨t1 i hi, ?_⟩, t2⟩
  have := (hE i hi).2
  have := (c_expo (sh := sh) (S := S) hf (e := e) hi hd).2
  omega
end BBa
