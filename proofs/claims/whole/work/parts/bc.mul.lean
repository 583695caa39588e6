/-! THE CLASS's limbs: multiplied, added. -/
section BCa
theorem J_sar {z : Int} (h : -9223372036854775808 ≤ z ∧ z < 9223372036854775808) : J z >>> ((30 : Int32).toInt64 &&& 63) = J (z / 1073741824) := by
  rw [← Int64.toInt_inj, J_toInt (by omega)]
  show (J z >>> ((30 : Int32).toInt64 &&& 63)).toBitVec.toInt = _
  have e : ((30 : Int32).toInt64 &&& 63).toBitVec.smod 64 = BitVec.ofNat 64 30 := by decide
  rw [Int64.toBitVec_shiftRight, e]
  show ((J z).toBitVec.sshiftRight (BitVec.ofNat 64 30).toNat).toInt = _
  rw [BitVec.toInt_sshiftRight, BitVec.toNat_ofNat, Nat.mod_eq_of_lt (show 30 < 2 ^ 64 by omega)]
  have h2 : (J z).toBitVec.toInt = z := J_toInt h
  rw [h2, Int.shiftRight_eq_div_pow]
  rfl
theorem J_msk (z : Int) : J z &&& 1073741823 = J (z % 1073741824) := by
  obtain ⟨n, hn⟩ : ∃ n : Nat, z % 1073741824 = n := ⟨(z % 1073741824).toNat, by omega⟩
  rw [hn]
  apply J_by (by omega)
  rw [Int64.toBitVec_and, BitVec.toNat_and]
  show (BitVec.ofInt 64 z).toNat &&& (2 ^ 30 - 1) = n
  rw [Nat.and_two_pow_sub_one_eq_mod, BitVec.toNat_ofInt]
  omega
/-- carries of signed digits, base 2^30 -/
def cq (x : Nat → Int) (c0 : Int) : Nat → Int
  | 0 => c0
  | k + 1 => (cq x c0 k + x k) / 1073741824
theorem cq_bd {x : Nat → Int} {c0 M : Int} (hM : 1 ≤ M ∧ M ≤ 2305843009213693951) (h0 : -M ≤ c0 ∧ c0 ≤ M) : ∀ k, (∀ j, j < k → -M ≤ x j ∧ x j ≤ M) → -M ≤ cq x c0 k ∧ cq x c0 k ≤ M
  | 0, _ => h0
  | k + 1, h => by
    have := cq_bd hM h0 k (fun j hj => h j (by omega))
    have := h k (by omega)
    rw [cq]
    omega
theorem cq_dv (x : Nat → Int) (c0 : Int) : dv 1073741824 (fun k => (cq x c0 k + x k) % 1073741824) 12 = (c0 + dv 1073741824 x 12) % 1073741824 ^ 12 ∧ cq x c0 12 = (c0 + dv 1073741824 x 12) / 1073741824 ^ 12 := by
  have c := dv_carry (B := 1073741824) (x := x) (y := fun k => (cq x c0 k + x k) % 1073741824) (c := cq x c0) (m := 12) (fun k _ => by
    rw [cq]
    omega)
  have b := dv_bd (B := 1073741824) (x := fun k => (cq x c0 k + x k) % 1073741824) (by omega) (m := 12) (fun k _ => ⟨by omega, by omega⟩)
  have e : c0 + dv 1073741824 x 12 = dv 1073741824 (fun k => (cq x c0 k + x k) % 1073741824) 12 + cq x c0 12 * 1073741824 ^ 12 := c.symm
  rw [e]
  constructor
  · rw [Int.add_mul_emod_self_right, Int.emod_eq_of_lt b.1 b.2]
  · rw [Int.add_mul_ediv_right _ _ (by omega), Int.ediv_eq_zero_of_lt b.1 b.2]
    omega
def lv3 (S : St) (c : Nat) : Int := dv 1073741824 (fun k => (sL S c k).toInt) 12
def lN3 (S : St) (c : Nat) : Prop := ∀ k, k < 12 → 0 ≤ (sL S c k).toInt ∧ (sL S c k).toInt < 1073741824
theorem lv3_cg {S S' : St} {c : Nat} (h : ∀ k, k < 12 → sL S' c k = sL S c k) : lv3 S' c = lv3 S c := dv_cg (fun k hk => by rw [h k hk])
theorem lv3_sm {S S' : St} {c : Nat} (h : Sm S S' c) : lv3 S' c = lv3 S c := lv3_cg (fun k _ => h.L k)
theorem lN3_sm {S S' : St} {c : Nat} (h : Sm S S' c) (n : lN3 S c) : lN3 S' c := fun k hk => by rw [h.L]; exact n k hk
theorem lv3_bd {S : St} {c : Nat} (n : lN3 S c) : 0 ≤ lv3 S c ∧ lv3 S c < 1073741824 ^ 12 := dv_bd (by omega) n
end BCa
section BCb
variable {sh : List Sh} {f : Nat} {S : St}
theorem c_multL {A : Nat → Int64} {p : Nat} (hp : p ≤ 97) (hA : ∀ k, k < 12 → 0 ≤ (A k).toInt ∧ (A k).toInt < 1073741824) : ∀ (d k nf : Nat) (T : St), k + d = 12 → d < nf → (∀ j, j < 12 → sL T 43 j = if j < k then J ((cq (fun j => (A j).toInt * p) 0 j + (A j).toInt * p) % 1073741824) else A j) → ∃ T', F_X2_multiplyTerm_L5 sh f 40 (I p) nf T (J (cq (fun j => (A j).toInt * p) 0 k)) (I k) = some T' ∧ (∀ j, j < 12 → sL T' 43 j = J ((cq (fun j => (A j).toInt * p) 0 j + (A j).toInt * p) % 1073741824)) ∧ ∀ x, x ≠ 43 → Sm T T' x := by
  intro d
  induction d with
  | zero =>
    intro k nf T hk hn g
    obtain ⟨nf, rfl⟩ : ∃ e, nf = e + 1 := ⟨nf - 1, by omega⟩
    have : k = 12 := by omega
    subst this
    rw [F_X2_multiplyTerm_L5, if_pos (by decide)]
    exact ⟨T, rfl, fun j hj => by rw [g j hj, if_pos hj], fun _ _ => Sm.rfl⟩
  | succ d ih =>
    intro k nf T hk hn g
    obtain ⟨nf, rfl⟩ : ∃ e, nf = e + 1 := ⟨nf - 1, by omega⟩
    have nb : ¬ (I (k : Int) < 0 ∨ 12 ≤ k) := I_bnd (show k < 12 by omega) (by omega)
    have xb : ∀ j, j < 12 → 0 ≤ (A j).toInt * (p : Int) ∧ (A j).toInt * (p : Int) ≤ 1073741824 * 97 := fun j hj => by
      have := hA j hj
      exact ⟨Int.mul_nonneg this.1 (by omega), Int.mul_le_mul (by omega) (by omega) (by omega) (by omega)⟩
    have cb := cq_bd (x := fun j => (A j).toInt * p) (c0 := 0) (M := 1073741824 * 97) (by omega) (by omega) k (fun j hj => by have := xb j (by omega); exact ⟨by omega, this.2⟩)
    have xk := xb k (by omega)
    have a1 : sL T (40 + 3) k = J (A k).toInt := by
      have := g k (by omega)
      rw [if_neg (by omega)] at this
      rw [← J_of]
      exact this
    rw [F_X2_multiplyTerm_L5, if_neg (by rw [show (12 : Int32) = I ((12 : Nat) : Int) from rfl, I_leN (by omega) (by omega)]; omega), I_clN (show k < _ by omega), if_neg nb, a1, J_I (show -2147483648 ≤ (p : Int) ∧ (p : Int) < 2147483648 by omega), J_mul, J_add]
    simp only [bnd, if_neg nb]
    rw [J_msk, J_sar (by omega), I_suc]
    obtain ⟨T', t0, t1, t2⟩ := ih (k + 1) nf (uL T 43 k (J ((cq (fun j => (A j).toInt * p) 0 k + (A k).toInt * p) % 1073741824))) (by omega) (by omega) (fun j hj => by
      rw [sL_uL, if_pos rfl, up1_if]
      by_cases e : j = k
      · rw [if_pos e, if_pos (by omega), e]
      · rw [if_neg e, g j hj]
        by_cases q : j < k
        · rw [if_pos q, if_pos (by omega)]
        · rw [if_neg q, if_neg (by omega)])
    exact ⟨T', t0, t1, fun x hx => (Sm.rfl.uL hx).trans (t2 x hx)⟩
theorem dig_val {T : St} {c : Nat} {x : Nat → Int} {c0 : Int} (h : ∀ j, j < 12 → sL T c j = J ((cq x c0 j + x j) % 1073741824)) : lN3 T c ∧ lv3 T c = (c0 + dv 1073741824 x 12) % 1073741824 ^ 12 := by
  have t : ∀ j, j < 12 → (sL T c j).toInt = (cq x c0 j + x j) % 1073741824 := fun j hj => by rw [h j hj, J_toInt (by omega)]
  refine ⟨fun k hk => by rw [t k hk]; omega, ?_⟩
  rw [← (cq_dv x c0).1]
  exact dv_cg t
theorem c_mult (hf : 1000 ≤ f) (S : St) {p : Nat} (hp : p ≤ 97) (n : lN3 S 43) (sm : lv3 S 43 * p < 1073741824 ^ 12) : ∃ S', F_X2_multiplyTerm sh f S 40 (I p) = some S' ∧ lN3 S' 43 ∧ lv3 S' 43 = lv3 S 43 * p ∧ ∀ x, x ≠ 43 → Sm S S' x := by
  obtain ⟨T, t0, t1, t2⟩ := c_multL (sh := sh) (f := f) (A := sL S 43) hp n 12 0 f S (by omega) (by omega) (fun j hj => by rw [if_neg (by omega)])
  obtain ⟨d1, d2⟩ := dig_val t1
  refine ⟨T, t0, d1, ?_, t2⟩
  have b := lv3_bd n
  have e : dv 1073741824 (fun j => (sL S 43 j).toInt * (p : Int)) 12 = lv3 S 43 * p := dv_mul 12
  rw [d2, e, Int.zero_add]
  exact Int.emod_eq_of_lt (Int.mul_nonneg b.1 (by omega)) sm
theorem c_add71 (hf : 1000 ≤ f) {i E a0 : Nat} (hi : i < 25) (p1 p3 : Int64) (k52 : St → Int32 → Option St) (hE : E < 63) : ∀ (d k nf : Nat) (T : St), k + d = E → d < nf → sA T 41 i = I E → lN3 T 43 → lv3 T 43 * (pP i : Int) ^ d < 1073741824 ^ 12 → ∃ T', F_X2_add_L71 sh f 40 p1 p3 k52 nf T (I i) (I k) = k52 T' (I ((i + 1 : Nat) : Int)) ∧ lN3 T' 43 ∧ lv3 T' 43 = lv3 T 43 * (pP i : Int) ^ d ∧ ∀ x, x ≠ 43 → Sm T T' x := by
  obtain ⟨q1, q2, q3⟩ := pP_tf ⟨i, hi⟩
  have q1' : v_tf v_T1 i = I (pP i : Int) := q1
  have pe : pP (⟨i, hi⟩ : Fin 25).val = pP i := rfl
  have nb : ¬ (I (i : Int) < 0 ∨ 25 ≤ i) := I_bnd hi (by omega)
  intro d
  induction d with
  | zero =>
    intro k nf T hk hn h1 n sm
    obtain ⟨nf, rfl⟩ : ∃ e, nf = e + 1 := ⟨nf - 1, by omega⟩
    have h1' : sA T (40 + 1) i = I E := h1
    rw [F_X2_add_L71, I_clN (show i < _ by omega), if_neg nb, h1', if_pos (by rw [I_leN (by omega) (by omega)]; omega)]
    simp only [bnd, I_suc]
    exact ⟨T, rfl, n, by simp, fun _ _ => Sm.rfl⟩
  | succ d ih =>
    intro k nf T hk hn h1 n sm
    obtain ⟨nf, rfl⟩ : ∃ e, nf = e + 1 := ⟨nf - 1, by omega⟩
    have h1' : sA T (40 + 1) i = I E := h1
    have b := lv3_bd n
    have pd : 1 ≤ (pP i : Int) ^ d := by
      have := Int.pow_pos (n := (pP i : Int)) (m := d) (by omega)
      omega
    have sp : lv3 T 43 * (pP i : Int) ^ (d + 1) = lv3 T 43 * (pP i : Int) * (pP i : Int) ^ d := by rw [Int.pow_succ]; grind
    rw [sp] at sm
    have nn : 0 ≤ lv3 T 43 * (pP i : Int) := Int.mul_nonneg b.1 (by omega)
    have le : lv3 T 43 * (pP i : Int) * 1 ≤ lv3 T 43 * (pP i : Int) * (pP i : Int) ^ d := Int.mul_le_mul_of_nonneg_left pd nn
    obtain ⟨U, u0, u1, u2, u3⟩ := c_mult (sh := sh) (f := f) hf T (p := pP i) (by omega) n (by omega)
    obtain ⟨T', t0, t1, t2, t3⟩ := ih (k + 1) nf U (by omega) (by omega) (by rw [(u3 41 (by omega)).A]; exact h1) u1 (by rw [u2]; exact sm)
    rw [F_X2_add_L71, I_clN (show i < _ by omega), if_neg nb, h1', if_neg (by rw [I_leN (by omega) (by omega)]; omega), if_neg nb, q1', u0, Option.bind_some]
    simp only [bnd, I_suc]
    exact ⟨T', t0, t1, by rw [t2, u2, sp], fun x hx => (u3 x hx).trans (t3 x hx)⟩
end BCb
