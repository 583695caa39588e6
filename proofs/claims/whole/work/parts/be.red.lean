/-! THE CLASS's limbs: carried over, divided, told. -/
section BEa
variable {sh : List Sh} {f : Nat} {S : St}
theorem c_carry0 (hf : 1000 ≤ f) (S : St) {M : Int} (hM : 1 ≤ M ∧ M ≤ 2305843009213693951) (lb : lB3 S M) : F_X2_carryOver sh f S 40 0 = some (J (lv3 S 42 / 1073741824 ^ 12), S) := by
  have lp : ∀ (d k nf : Nat), k + d = 12 → d < nf → F_X2_carryOver_L5 sh f 40 0 nf S (J (cq (fun k => (sL S 42 k).toInt) 0 k)) (I k) = some (J (cq (fun k => (sL S 42 k).toInt) 0 12), S) := by
    intro d
    induction d with
    | zero =>
      intro k nf hk hn
      obtain ⟨nf, rfl⟩ : ∃ e, nf = e + 1 := ⟨nf - 1, by omega⟩
      have : k = 12 := by omega
      subst this
      rw [F_X2_carryOver_L5, if_pos (by decide)]
    | succ d ih =>
      intro k nf hk hn
      obtain ⟨nf, rfl⟩ : ∃ e, nf = e + 1 := ⟨nf - 1, by omega⟩
      have cb := cq_bd (x := fun k => (sL S 42 k).toInt) (c0 := 0) hM (by omega) k (fun j hj => lb j (by omega))
      have xk := lb k (by omega)
      have a1 : sL S (40 + 2) k = J (sL S 42 k).toInt := J_of _
      rw [F_X2_carryOver_L5, if_neg (by rw [show (12 : Int32) = I ((12 : Nat) : Int) from rfl, I_leN (by omega) (by omega)]; omega), I_clN (show k < _ by omega), if_neg (I_bnd (show k < 12 by omega) (by omega)), a1, J_add]
      simp only [bnd]
      rw [if_pos trivial, J_sar (by omega), I_suc]
      exact ih (k + 1) nf (by omega) (by omega)
  have := lp 12 0 f (by omega) (by omega)
  have e : F_X2_carryOver sh f S 40 0 = _ := this
  rw [e, (cq_dv _ 0).2, Int.zero_add]
  rfl
theorem c_carry1 (hf : 1000 ≤ f) (S : St) {M : Int} (hM : 1 ≤ M ∧ M ≤ 2305843009213693951) (lb : lB3 S M) : ∃ v S', F_X2_carryOver sh f S 40 1 = some (v, S') ∧ lN3 S' 42 ∧ lv3 S' 42 = lv3 S 42 % 1073741824 ^ 12 ∧ ∀ x, x ≠ 42 → Sm S S' x := by
  have lp : ∀ (d k nf : Nat) (T : St), k + d = 12 → d < nf → (∀ j, j < 12 → sL T 42 j = if j < k then J ((cq (fun k => (sL S 42 k).toInt) 0 j + (sL S 42 j).toInt) % 1073741824) else sL S 42 j) → ∃ v T', F_X2_carryOver_L5 sh f 40 1 nf T (J (cq (fun k => (sL S 42 k).toInt) 0 k)) (I k) = some (v, T') ∧ (∀ j, j < 12 → sL T' 42 j = J ((cq (fun k => (sL S 42 k).toInt) 0 j + (sL S 42 j).toInt) % 1073741824)) ∧ ∀ x, x ≠ 42 → Sm T T' x := by
    intro d
    induction d with
    | zero =>
      intro k nf T hk hn g
      obtain ⟨nf, rfl⟩ : ∃ e, nf = e + 1 := ⟨nf - 1, by omega⟩
      have : k = 12 := by omega
      subst this
      rw [F_X2_carryOver_L5, if_pos (by decide)]
      exact ⟨_, T, rfl, fun j hj => by rw [g j hj, if_pos hj], fun _ _ => Sm.rfl⟩
    | succ d ih =>
      intro k nf T hk hn g
      obtain ⟨nf, rfl⟩ : ∃ e, nf = e + 1 := ⟨nf - 1, by omega⟩
      have cb := cq_bd (x := fun k => (sL S 42 k).toInt) (c0 := 0) hM (by omega) k (fun j hj => lb j (by omega))
      have xk := lb k (by omega)
      have nb : ¬ (I (k : Int) < 0 ∨ 12 ≤ k) := I_bnd (show k < 12 by omega) (by omega)
      have a1 : sL T (40 + 2) k = J (sL S 42 k).toInt := by
        have := g k (by omega)
        rw [if_neg (by omega)] at this
        rw [← J_of]
        exact this
      rw [F_X2_carryOver_L5, if_neg (by rw [show (12 : Int32) = I ((12 : Nat) : Int) from rfl, I_leN (by omega) (by omega)]; omega), I_clN (show k < _ by omega), if_neg nb, a1, J_add]
      simp only [bnd]
      rw [if_neg (by decide), if_neg nb, J_msk, J_sar (by omega), I_suc]
      obtain ⟨v, T', t0, t1, t2⟩ := ih (k + 1) nf (uL T 42 k (J ((cq (fun k => (sL S 42 k).toInt) 0 k + (sL S 42 k).toInt) % 1073741824))) (by omega) (by omega) (fun j hj => by
        rw [sL_uL, if_pos rfl, up1_if]
        by_cases e : j = k
        · rw [if_pos e, if_pos (by omega), e]
        · rw [if_neg e, g j hj]
          by_cases q : j < k
          · rw [if_pos q, if_pos (by omega)]
          · rw [if_neg q, if_neg (by omega)])
      exact ⟨v, T', t0, t1, fun x hx => (Sm.rfl.uL hx).trans (t2 x hx)⟩
  obtain ⟨v, T', t0, t1, t2⟩ := lp 12 0 f S (by omega) (by omega) (fun j hj => by rw [if_neg (by omega)])
  obtain ⟨d1, d2⟩ := dig_val t1
  refine ⟨v, T', t0, d1, ?_, t2⟩
  rw [d2, Int.zero_add]
  rfl
/-- the number that the highest d digits tell -/
def hiD (x : Nat → Int) : Nat → Int
  | 0 => 0
  | d + 1 => hiD x d * 1073741824 + x (11 - d)
theorem hiD_dv (x : Nat → Int) : ∀ d, d ≤ 12 → dv 1073741824 x 12 = hiD x d * 1073741824 ^ (12 - d) + dv 1073741824 x (12 - d)
  | 0, _ => by simp [hiD]
  | d + 1, h => by
    have ih := hiD_dv x d (by omega)
    rw [ih, hiD, show 12 - d = (11 - d) + 1 by omega, dv, Int.pow_succ, show 12 - (d + 1) = 11 - d by omega]
    grind
theorem hiD_12 (x : Nat → Int) : hiD x 12 = dv 1073741824 x 12 := by
  have := hiD_dv x 12 (by omega)
  rw [this]
  simp [dv]
theorem hi_mod (a x p : Int) : (a % p * 1073741824 + x) % p = (a * 1073741824 + x) % p := by
  rw [Int.add_emod (a % p * 1073741824), mme, ← Int.add_emod]
theorem hi_div (a x : Int) {p : Int} (hp : 0 < p) : (a * 1073741824 + x) / p = a / p * 1073741824 + (a % p * 1073741824 + x) / p := by
  have e : a * 1073741824 + x = (a % p * 1073741824 + x) + (a / p * 1073741824) * p := by
    have := Int.emod_add_mul_ediv a p
    grind
  rw [e, Int.add_mul_ediv_right _ _ (by omega)]
  omega
theorem J_sh30 {r : Int} (h : 0 ≤ r ∧ r < 97) : J r <<< ((30 : Int32).toInt64 &&& 63) = J (r * 1073741824) := by
  obtain ⟨n, rfl⟩ : ∃ n : Nat, r = n := ⟨r.toNat, by omega⟩
  have e3 : (30 : Int32).toInt64 &&& 63 = (J ((30 : Nat) : Int)) &&& 63 := by decide
  rw [e3, J_shl (by omega) (by omega)]
  congr 1
theorem c_isDiv (hf : 1000 ≤ f) {i : Nat} (hi : i < 25) (n : lN3 S 42) : F_X2_isDivisible sh f S 40 (v_tf v_T1 i) = some (if lv3 S 42 % (pP i : Int) = 0 then 1 else 0) := by
  obtain ⟨q1, q2, q3⟩ := pP_tf ⟨i, hi⟩
  have q1' : v_tf v_T1 i = I (pP i : Int) := q1
  have pe : pP (⟨i, hi⟩ : Fin 25).val = pP i := rfl
  have lp : ∀ (d k nf : Nat), k + d = 12 → d < nf → F_X2_isDivisible_L6 sh f S 40 (I (pP i : Int)) nf (J (hiD (fun k => (sL S 42 k).toInt) k % (pP i : Int))) (I (11 - (k : Int))) = some (if lv3 S 42 % (pP i : Int) = 0 then 1 else 0) := by
    intro d
    induction d with
    | zero =>
      intro k nf hk hn
      obtain ⟨nf, rfl⟩ : ∃ e, nf = e + 1 := ⟨nf - 1, by omega⟩
      have : k = 12 := by omega
      subst this
      have r0 := Int.emod_nonneg (lv3 S 42) (b := (pP i : Int)) (by omega)
      have r1 := Int.emod_lt_of_pos (lv3 S 42) (b := (pP i : Int)) (by omega)
      have e : hiD (fun k => (sL S 42 k).toInt) 12 = lv3 S 42 := hiD_12 _
      have l := (lgz (a := lv3 S 42 % (pP i : Int)) (c := 0) (by omega) (by omega)).2.2.2
      rw [F_X2_isDivisible_L6, if_pos (by decide), e, show (0 : Int64) = J 0 from rfl]
      simp only [l]
      by_cases c : lv3 S 42 % (pP i : Int) = 0
      · rw [if_pos c, if_pos c]
      · rw [if_neg c, if_neg c]
    | succ d ih =>
      intro k nf hk hn
      obtain ⟨nf, rfl⟩ : ∃ e, nf = e + 1 := ⟨nf - 1, by omega⟩
      have k11 : (11 : Int) - (k : Int) = ((11 - k : Nat) : Int) := by omega
      have r0 := Int.emod_nonneg (hiD (fun k => (sL S 42 k).toInt) k) (b := (pP i : Int)) (by omega)
      have r1 := Int.emod_lt_of_pos (hiD (fun k => (sL S 42 k).toInt) k) (b := (pP i : Int)) (by omega)
      have xk := n (11 - k) (by omega)
      have a1 : sL S (40 + 2) (11 - k) = J (sL S 42 (11 - k)).toInt := J_of _
      have pc : (I (pP i : Int)).toInt64 = J (pP i : Int) := J_I (by omega)
      rw [F_X2_isDivisible_L6, k11, if_neg (by rw [show (0 : Int32) = I ((0 : Nat) : Int) from rfl, I_ltN (by omega) (by omega)]; omega), I_clN (show 11 - k < _ by omega), if_neg (I_bnd (show 11 - k < 12 by omega) (by omega)), pc, if_neg (show ¬ J (pP i : Int) = 0 by rw [show (0 : Int64) = J 0 from rfl, J_eq (by omega) (by omega)]; omega), a1, J_sh30 (by omega), J_add, J_rem (by omega) (by omega), hi_mod]
      simp only [bnd]
      rw [show (-1 : Int32) = I (-1) from rfl, I_add]
      have := ih (k + 1) nf (by omega) (by omega)
      rw [show (11 : Int) - ((k + 1 : Nat) : Int) = ((11 - k : Nat) : Int) + -1 by omega] at this
      exact this
  have := lp 12 0 f (by omega) (by omega)
  unfold F_X2_isDivisible
  rw [q1']
  exact this
theorem c_divd (hf : 1000 ≤ f) (S : St) {i : Nat} (hi : i < 25) (n : lN3 S 42) : ∃ S', F_X2_divide sh f S 40 (v_tf v_T1 i) = some S' ∧ lN3 S' 42 ∧ lv3 S' 42 = lv3 S 42 / (pP i : Int) ∧ ∀ x, x ≠ 42 → Sm S S' x := by
  obtain ⟨q1, q2, q3⟩ := pP_tf ⟨i, hi⟩
  have q1' : v_tf v_T1 i = I (pP i : Int) := q1
  have pe : pP (⟨i, hi⟩ : Fin 25).val = pP i := rfl
  generalize hx : (fun k => (sL S 42 k).toInt) = x
  have xx : ∀ k, (sL S 42 k).toInt = x k := fun k => by rw [← hx]
  generalize hy : (fun k => (hiD x (11 - k) % (pP i : Int) * 1073741824 + x k) / (pP i : Int)) = y
  have yy : ∀ k, (hiD x (11 - k) % (pP i : Int) * 1073741824 + x k) / (pP i : Int) = y k := fun k => by rw [← hy]
  have xb : ∀ k, k < 12 → 0 ≤ x k ∧ x k < 1073741824 := fun k hk => by rw [← xx]; exact n k hk
  have yb : ∀ k, k < 12 → 0 ≤ y k ∧ y k < 1073741824 := fun k hk => by
    have r0 := Int.emod_nonneg (hiD x (11 - k)) (b := (pP i : Int)) (by omega)
    have r1 := Int.emod_lt_of_pos (hiD x (11 - k)) (b := (pP i : Int)) (by omega)
    have b := xb k hk
    rw [← yy]
    refine ⟨Int.ediv_nonneg (by omega) (by omega), Int.ediv_lt_of_lt_mul (by omega) ?_⟩
    omega
  have lp : ∀ (d k nf : Nat) (T : St), k + d = 12 → d < nf → (∀ j, j < 12 → sL T 42 j = J (if 12 ≤ j + k then y j else x j)) → ∃ T', F_X2_divide_L6 sh f 40 (I (pP i : Int)) nf T (J (hiD x k % (pP i : Int))) (I (11 - (k : Int))) = some T' ∧ (∀ j, j < 12 → sL T' 42 j = J (y j)) ∧ ∀ x, x ≠ 42 → Sm T T' x := by
    intro d
    induction d with
    | zero =>
      intro k nf T hk hn g
      obtain ⟨nf, rfl⟩ : ∃ e, nf = e + 1 := ⟨nf - 1, by omega⟩
      have : k = 12 := by omega
      subst this
      rw [F_X2_divide_L6, if_pos (by decide)]
      exact ⟨T, rfl, fun j hj => by rw [g j hj, if_pos (by omega)], fun _ _ => Sm.rfl⟩
    | succ d ih =>
      intro k nf T hk hn g
      obtain ⟨nf, rfl⟩ : ∃ e, nf = e + 1 := ⟨nf - 1, by omega⟩
      have k11 : (11 : Int) - (k : Int) = ((11 - k : Nat) : Int) := by omega
      have r0 := Int.emod_nonneg (hiD x k) (b := (pP i : Int)) (by omega)
      have r1 := Int.emod_lt_of_pos (hiD x k) (b := (pP i : Int)) (by omega)
      have b := xb (11 - k) (by omega)
      have a1 : sL T (40 + 2) (11 - k) = J (x (11 - k)) := by
        have := g (11 - k) (by omega)
        rw [if_neg (by omega)] at this
        exact this
      have y1 := yy (11 - k)
      rw [show 11 - (11 - k) = k by omega] at y1
      have pc : (I (pP i : Int)).toInt64 = J (pP i : Int) := J_I (by omega)
      have pz : ¬ J (pP i : Int) = 0 := by rw [show (0 : Int64) = J 0 from rfl, J_eq (by omega) (by omega)]; omega
      have nb : ¬ (I ((11 - k : Nat) : Int) < 0 ∨ 12 ≤ 11 - k) := I_bnd (show 11 - k < 12 by omega) (by omega)
      rw [F_X2_divide_L6, k11, if_neg (by rw [show (0 : Int32) = I ((0 : Nat) : Int) from rfl, I_ltN (by omega) (by omega)]; omega), I_clN (show 11 - k < _ by omega), if_neg nb, pc, a1, J_sh30 (by omega), J_add]
      simp only [bnd, if_neg pz, if_neg nb]
      rw [J_rem (by omega) (by omega), J_div (by omega) (by omega), hi_mod, y1, show (-1 : Int32) = I (-1) from rfl, I_add]
      obtain ⟨T', t0, t1, t2⟩ := ih (k + 1) nf (uL T 42 (11 - k) (J (y (11 - k)))) (by omega) (by omega) (fun j hj => by
        rw [sL_uL, if_pos rfl, up1_if]
        by_cases e : j = 11 - k
        · rw [if_pos e, if_pos (by omega), e]
        · rw [if_neg e, g j hj]
          by_cases q : 12 ≤ j + k
          · rw [if_pos q, if_pos (by omega)]
          · rw [if_neg q, if_neg (by omega)])
      rw [show (11 : Int) - ((k + 1 : Nat) : Int) = ((11 - k : Nat) : Int) + -1 by omega] at t0
      exact ⟨T', t0, t1, fun x hx => (Sm.rfl.uL hx).trans (t2 x hx)⟩
  obtain ⟨T', t0, t1, t2⟩ := lp 12 0 f S (by omega) (by omega) (fun j hj => by rw [if_neg (by omega), ← xx, ← J_of])
  have ty : ∀ j, j < 12 → (sL T' 42 j).toInt = y j := fun j hj => by
    have := yb j hj
    rw [t1 j hj, J_toInt (by omega)]
  have hd : ∀ d, d ≤ 12 → hiD y d = hiD x d / (pP i : Int) := by
    intro d
    induction d with
    | zero => intro _; simp [hiD]
    | succ d ih =>
      intro h
      have y1 := yy (11 - d)
      rw [show 11 - (11 - d) = d by omega] at y1
      rw [hiD, hiD, ih (by omega), hi_div _ _ (by omega), y1]
  unfold F_X2_divide
  rw [q1']
  refine ⟨T', t0, fun k hk => by rw [ty k hk]; exact yb k hk, ?_, t2⟩
  have e1 : lv3 T' 42 = dv 1073741824 y 12 := dv_cg ty
  have e2 : lv3 S 42 = dv 1073741824 x 12 := dv_cg (fun k _ => xx k)
  rw [e1, e2, ← hiD_12, ← hiD_12, hd 12 (by omega)]
end BEa
