/-! THE FRACTION of both, from the rests. -/
section C0a
theorem iv_ex : ∃ g : Nat → Nat → Nat, ∀ x p, x ^ (p - 2) % p = g x p := ⟨fun x p => x ^ (p - 2) % p, fun _ _ => rfl⟩
noncomputable def ivN : Nat → Nat → Nat := Classical.choose iv_ex
theorem ivN_e (x p : Nat) : x ^ (p - 2) % p = ivN x p := Classical.choose_spec iv_ex x p
theorem ivN_lt (x : Nat) {p : Nat} (h : 0 < p) : ivN x p < p := by rw [← ivN_e]; exact Nat.mod_lt _ h
theorem ivN_md (x p : Nat) : ivN (x % p) p = ivN x p := by
  rw [← ivN_e, ← ivN_e, ← Nat.pow_mod]
noncomputable def one' (r : Nat → Nat) : Nat := ((((r 1 : Int) - r 0) * (ivN (pQ 0) (pQ 1) : Nat)) % (pQ 1 : Nat)).toNat
noncomputable def two' (r : Nat → Nat) : Nat := r 0 + pQ 0 * one' r
noncomputable def las' (r : Nat → Nat) : Nat := (((r 2 : Int) - two' r) % (pQ 2 : Nat)).toNat * ivN (pQ 0 * pQ 1) (pQ 2) % pQ 2
noncomputable def crt (r : Nat → Nat) : Nat := two' r + pQ 0 * pQ 1 * las' r
def RR : Nat := pQ 0 * pQ 1 * pQ 2
theorem RR_v : RR = 1000073001431003663 := by unfold RR; decide
theorem crt_b {r : Nat → Nat} (h : ∀ k, k < 4 → r k < pQ k) : one' r < pQ 1 ∧ two' r < 1000036000099 ∧ las' r < pQ 2 ∧ crt r < RR := by
  have h0 := h 0 (by omega)
  have p0 : pQ 0 = 1000003 := rfl
  have p1 : pQ 1 = 1000033 := rfl
  have p2 : pQ 2 = 1000037 := rfl
  have o : one' r < pQ 1 := by
    unfold one'
    have a := Int.emod_nonneg (((r 1 : Int) - r 0) * (ivN (pQ 0) (pQ 1) : Nat)) (b := (pQ 1 : Nat)) (by omega)
    have b := Int.emod_lt_of_pos (((r 1 : Int) - r 0) * (ivN (pQ 0) (pQ 1) : Nat)) (b := (pQ 1 : Nat)) (by omega)
    omega
  have t : two' r < 1000036000099 := by
    unfold two'
    rw [p0]
    omega
  have l : las' r < pQ 2 := Nat.mod_lt _ (by omega)
  refine ⟨o, t, l, ?_⟩
  unfold crt
  rw [RR_v, p0, p1]
  omega
noncomputable def fE (r : Nat → Nat) : Nat × Int := euc 63 RR (crt r) 0 1
noncomputable def fT (r : Nat → Nat) : Int := if 0 ≤ (fE r).2 then ((fE r).1 : Int) else -((fE r).1 : Int)
noncomputable def fU (r : Nat → Nat) : Nat := (fE r).2.natAbs
noncomputable def fnd (r : Nat → Nat) : Bool := decide (1 ≤ fU r ∧ fU r ≤ 500000000 ∧ Nat.gcd (fE r).1 (fU r) = 1 ∧ (fT r - fU r * r 3) % (pQ 3 : Nat) = 0)
theorem fE_b {r : Nat → Nat} (h : ∀ k, k < 4 → r k < pQ k) : (fE r).1 ≤ 500000000 ∧ (fE r).2.natAbs ≤ RR ∧ EU RR RR (crt r) 0 1 ∧ RR * crt r < 2 ^ (63 + 57) := by
  have c := (crt_b h).2.2.2
  have e : EU RR RR (crt r) 0 1 := ⟨c, Nat.le_refl _, Or.inl ⟨by omega, by omega⟩, by
    rw [show (1 : Int).natAbs = 1 from rfl, show (0 : Int).natAbs = 0 from rfl]
    omega⟩
  have m : RR * crt r < 2 ^ (63 + 57) := by
    have a := Nat.mul_le_mul_left RR (Nat.le_of_lt c)
    have b : RR * RR < 2 ^ (63 + 57) := by rw [RR_v]; decide
    omega
  have b := euc_b 63 RR (crt r) 0 1 e m
  exact ⟨b.1, b.2, e, m⟩
theorem p3_p : ∀ x : Nat, x < 4 → pQ x % 2 = 1 := by decide
/-- the fourth prime's two ways to be asked -/
theorem p3_eq {T : Int} {U x p : Nat} (hp : 0 < p) : (T % (p : Int) = ((x * (U % p) % p : Nat) : Int)) = ((T - U * x) % (p : Int) = 0) := by
  have e : ((x * (U % p) % p : Nat) : Int) = (U * x : Int) % (p : Int) := by
    have : x * (U % p) % p = U * x % p := by rw [Nat.mul_mod, Nat.mod_mod, ← Nat.mul_mod, Nat.mul_comm]
    rw [this, Int.natCast_emod, Int.natCast_mul]
  rw [e]
  exact propext Int.emod_eq_emod_iff_emod_sub_eq_zero
end C0a
section C0b
variable {sh : List Sh} {f : Nat} {S : St}
theorem c_jr {a : Nat} {r : Nat → Nat} (hf : 1000 ≤ f) (h : ∀ k, k < 4 → r k < pQ k) (h1 : ∀ k, k < 4 → sL S (a + 1) k = J (r k : Nat)) : F_X7_joinedRests sh f S a = some (J (crt r : Nat)) := by
  have h0 := h 0 (by omega)
  have h1' := h 1 (by omega)
  have h2' := h 2 (by omega)
  have p0 : pQ 0 = 1000003 := rfl
  have p1 : pQ 1 = 1000033 := rfl
  have p2 : pQ 2 = 1000037 := rfl
  obtain ⟨b1, b2, b3, b4⟩ := crt_b h
  have z0 : (v_tf v_T2 (0 : Int32).toNatClampNeg).toInt64 = J (pQ 0 : Nat) := by
    rw [show v_tf v_T2 (0 : Int32).toNatClampNeg = I (pQ 0 : Int) from pQ_tf ⟨0, by omega⟩, J_I (by omega)]
  have z1 : (v_tf v_T2 (1 : Int32).toNatClampNeg).toInt64 = J (pQ 1 : Nat) := by
    rw [show v_tf v_T2 (1 : Int32).toNatClampNeg = I (pQ 1 : Int) from pQ_tf ⟨1, by omega⟩, J_I (by omega)]
  have z2 : (v_tf v_T2 (2 : Int32).toNatClampNeg).toInt64 = J (pQ 2 : Nat) := by
    rw [show v_tf v_T2 (2 : Int32).toNatClampNeg = I (pQ 2 : Int) from pQ_tf ⟨2, by omega⟩, J_I (by omega)]
  have q0 : sL S (a + 1) (0 : Int32).toNatClampNeg = J (r 0 : Nat) := h1 0 (by omega)
  have q1 : sL S (a + 1) (1 : Int32).toNatClampNeg = J (r 1 : Nat) := h1 1 (by omega)
  have q2 : sL S (a + 1) (2 : Int32).toNatClampNeg = J (r 2 : Nat) := h1 2 (by omega)
  have i1 := c_inv (sh := sh) (S := S) hf (p := pQ 1) (x := pQ 0) (by omega) (by omega)
  have i2 := c_inv (sh := sh) (S := S) hf (p := pQ 2) (x := pQ 0 * pQ 1) (by omega) (by rw [p0, p1]; omega)
  rw [ivN_e] at i1 i2
  have l1 := ivN_lt (pQ 0) (p := pQ 1) (by omega)
  have l2 := ivN_lt (pQ 0 * pQ 1) (p := pQ 2) (by omega)
  have o : ((((r 1 : Int) - r 0) * (ivN (pQ 0) (pQ 1) : Nat)) % (pQ 1 : Nat)) = (one' r : Nat) := by
    unfold one'
    have a := Int.emod_nonneg (((r 1 : Int) - r 0) * (ivN (pQ 0) (pQ 1) : Nat)) (b := (pQ 1 : Nat)) (by omega)
    omega
  have mb : -1000000000000000 ≤ ((r 1 : Int) - r 0) * (ivN (pQ 0) (pQ 1) : Nat) ∧ ((r 1 : Int) - r 0) * (ivN (pQ 0) (pQ 1) : Nat) ≤ 1000000000000000 := by
    have m1 := Nat.mul_le_mul (show r 1 ≤ 1000039 by omega) (show ivN (pQ 0) (pQ 1) ≤ 1000039 by omega)
    have m0 := Nat.mul_le_mul (show r 0 ≤ 1000039 by omega) (show ivN (pQ 0) (pQ 1) ≤ 1000039 by omega)
    rw [Int.sub_mul, ← Int.natCast_mul, ← Int.natCast_mul]
    omega
  have fm1 := c_fmod (sh := sh) (f := f) (S := S) (a := ((r 1 : Int) - r 0) * (ivN (pQ 0) (pQ 1) : Nat)) (p := (pQ 1 : Nat)) (by omega) (by omega)
  rw [o] at fm1
  have fm2 := c_fmod (sh := sh) (f := f) (S := S) (a := (r 2 : Int) - two' r) (p := (pQ 2 : Nat)) (by omega) (by omega)
  have n2 := Int.emod_nonneg ((r 2 : Int) - two' r) (b := (pQ 2 : Nat)) (by omega)
  have n2' := Int.emod_lt_of_pos ((r 2 : Int) - two' r) (b := (pQ 2 : Nat)) (by omega)
  have lv : las' r = (((r 2 : Int) - two' r) % (pQ 2 : Nat)).toNat * ivN (pQ 0 * pQ 1) (pQ 2) % pQ 2 := rfl
  obtain ⟨m, hm⟩ : ∃ m : Nat, ((r 2 : Int) - two' r) % (pQ 2 : Nat) = m := ⟨(((r 2 : Int) - two' r) % (pQ 2 : Nat)).toNat, by omega⟩
  rw [hm] at fm2 lv
  have lv' : las' r = m * ivN (pQ 0 * pQ 1) (pQ 2) % pQ 2 := lv
  have mm := Nat.mul_le_mul (show m ≤ 1000039 by omega) (show ivN (pQ 0 * pQ 1) (pQ 2) ≤ 1000039 by omega)
  unfold F_X7_joinedRests
  rw [if_neg (by decide)]
  simp only [bnd]
  rw [if_neg (by decide), if_neg (by decide), if_neg (by decide), if_neg (by decide), z0, z1, z2, i1, Option.bind_some, q1, q0, J_sub, J_mul, fm1, Option.bind_some, if_neg (by decide), if_neg (by decide), J_mul, J_add, q2, J_sub, show (r 0 : Int) + (pQ 0 : Nat) * (one' r : Nat) = (two' r : Nat) by unfold two'; rw [Int.natCast_add, Int.natCast_mul], fm2, Option.bind_some, J_mul, ← Int.natCast_mul, i2, Option.bind_some, if_neg (J_z (by omega)), J_mul, ← Int.natCast_mul, J_rem (by omega) (by omega), ← Int.natCast_emod, ← lv', J_mul, J_add]
  unfold crt
  simp only [Int.natCast_add, Int.natCast_mul]
theorem c_ff {a : Nat} {r : Nat → Nat} {lb : Bool} (hf : 1000 ≤ f) (h : ∀ k, k < 4 → r k < pQ k) (h1 : ∀ k, k < 4 → sL S (a + 1) k = J (r k : Nat)) (h3 : sI S a 3 = b2I lb) : F_X7_findFraction sh f S a = some (if lb = false ∧ fnd r = true then (1, uJ (uJ S a 4 (J (fT r))) a 5 (J (fU r : Nat))) else (0, S)) := by
  have p0 : pQ 0 = 1000003 := rfl
  have p1 : pQ 1 = 1000033 := rfl
  have p2 : pQ 2 = 1000037 := rfl
  have p3 : pQ 3 = 1000039 := rfl
  have z0 : (v_tf v_T2 (0 : Int32).toNatClampNeg).toInt64 = J (pQ 0 : Nat) := by
    rw [show v_tf v_T2 (0 : Int32).toNatClampNeg = I (pQ 0 : Int) from pQ_tf ⟨0, by omega⟩, J_I (by omega)]
  have z1 : (v_tf v_T2 (1 : Int32).toNatClampNeg).toInt64 = J (pQ 1 : Nat) := by
    rw [show v_tf v_T2 (1 : Int32).toNatClampNeg = I (pQ 1 : Int) from pQ_tf ⟨1, by omega⟩, J_I (by omega)]
  have z2 : (v_tf v_T2 (2 : Int32).toNatClampNeg).toInt64 = J (pQ 2 : Nat) := by
    rw [show v_tf v_T2 (2 : Int32).toNatClampNeg = I (pQ 2 : Int) from pQ_tf ⟨2, by omega⟩, J_I (by omega)]
  have z3 : (v_tf v_T2 (3 : Int32).toNatClampNeg).toInt64 = J (pQ 3 : Nat) := by
    rw [show v_tf v_T2 (3 : Int32).toNatClampNeg = I (pQ 3 : Int) from pQ_tf ⟨3, by omega⟩, J_I (by omega)]
  unfold F_X7_findFraction
  rw [h3]
  cases lb with
  | true =>
    rw [if_neg (by decide), if_neg (fun q => by cases q.1)]
  | false =>
    rw [if_pos (by decide), if_neg (by decide), if_neg (by decide), if_neg (by decide), z0, z1, z2, c_jr hf h h1]
    simp only [bnd, Option.bind_some]
    obtain ⟨b1, b2, b3, b4⟩ := fE_b h
    have rv := RR_v
    have st : F_X7_findFraction_L44 sh f a f S (J (RR : Nat)) (J (crt r : Nat)) (J 0) (J 1) (I (0 : Nat)) = F_X7_findFraction_L101 sh f a S (J ((fE r).1 : Nat)) (J (fE r).2) := c_euc (R := RR) (by omega) a 63 RR (crt r) 0 1 0 f b3 b4 (by omega) (by omega)
    rw [J_mul, J_mul, ← Int.natCast_mul, ← Int.natCast_mul]
    have st' : F_X7_findFraction_L44 sh f a f S (J ((pQ 0 * pQ 1 * pQ 2 : Nat) : Int)) (J (crt r : Nat)) 0 1 0 = F_X7_findFraction_L101 sh f a S (J ((fE r).1 : Nat)) (J (fE r).2) := st
    rw [st']
    have tf : ∀ T : Int, T = fT r → F_X7_takeFraction sh f S a (J T) (J (fU r : Nat)) = some (if fnd r = true then (1, uJ (uJ S a 4 (J (fT r))) a 5 (J (fU r : Nat))) else (0, S)) := fun T hT => by
      have Ub : fU r ≤ RR := b2
      have tb : T.natAbs = (fE r).1 := by
        rw [hT]
        unfold fT
        by_cases g : 0 ≤ (fE r).2
        · rw [if_pos g]; omega
        · rw [if_neg g]; omega
      have fd : (fnd r = true) = (1 ≤ fU r ∧ fU r ≤ 500000000 ∧ Nat.gcd (fE r).1 (fU r) = 1 ∧ (fT r - fU r * r 3) % (pQ 3 : Nat) = 0) := by
        unfold fnd
        rw [decide_eq_true_iff]
      have l0 := (lgz (a := (1 : Int)) (c := (fU r : Nat)) (by omega) (by omega)).2.1
      have l1 := (lgz (a := (fU r : Nat)) (c := (500000000 : Int)) (by omega) (by omega)).2.2.1
      have c1 : (lg_cmp (J (fU r : Nat)) 1 < 0) = ((fU r : Int) < 1) := by
        have := (lgz (a := (fU r : Nat)) (c := (1 : Int)) (by omega) (by omega)).1
        have n : (lg_cmp (J (fU r : Nat)) (J 1) < 0) = ¬ (0 ≤ lg_cmp (J (fU r : Nat)) (J 1)) := propext Int32.not_le.symm
        show (lg_cmp (J (fU r : Nat)) (J 1) < 0) = _
        rw [n, this]
        exact propext (by omega)
      unfold F_X7_takeFraction
      rw [show (500000000 : Int64) = J 500000000 from rfl]
      simp only [c1, l1]
      by_cases u1 : (fU r : Int) < 1
      · rw [if_pos u1, if_neg (by rw [fd]; omega)]
      · rw [if_neg u1]
        by_cases u2 : (500000000 : Int) < (fU r : Nat)
        · rw [if_pos u2, if_neg (by rw [fd]; omega)]
        · have r3 := h 3 (by omega)
          have rb := Nat.mul_le_mul (show fU r ≤ 500000000 by omega) (show r 3 ≤ 1000039 by omega)
          have q3 : sL S (a + 1) (3 : Int32).toNatClampNeg = J (r 3 : Nat) := h1 3 (by omega)
          have dv := c_dvq (sh := sh) (S := S) (a := (fE r).1) (b := fU r) hf b1 (by omega)
          have gl := Nat.gcd_le_right (n := fU r) (fE r).1 (by omega)
          have lg1 := (lgz (a := (Nat.gcd (fE r).1 (fU r) : Nat)) (c := (1 : Int)) (by omega) (by omega)).2.2.2
          have fm := c_fmod (sh := sh) (f := f) (S := S) (a := T - (fU r * r 3 : Nat)) (p := (pQ 3 : Nat)) (by omega) (by omega)
          have m0 := Int.emod_nonneg (T - (fU r * r 3 : Nat)) (b := (pQ 3 : Nat)) (by omega)
          have m1 := Int.emod_lt_of_pos (T - (fU r * r 3 : Nat)) (b := (pQ 3 : Nat)) (by omega)
          have lg0 := (lgz (a := (T - (fU r * r 3 : Nat)) % (pQ 3 : Nat)) (c := (0 : Int)) (by omega) (by omega)).2.2.2
          rw [if_neg u2, c_labs (by omega), Option.bind_some, tb, dv, Option.bind_some, show (1 : Int64) = J 1 from rfl]
          simp only [lg1]
          by_cases u3 : ((Nat.gcd (fE r).1 (fU r) : Nat) : Int) = 1
          · rw [if_pos u3, if_neg (by decide), z3]
            simp only [bnd]
            rw [if_neg (by decide), q3, J_mul, ← Int.natCast_mul, J_sub, fm, Option.bind_some, show (0 : Int64) = J 0 from rfl]
            simp only [lg0]
            by_cases u4 : (T - (fU r * r 3 : Nat)) % (pQ 3 : Nat) = 0
            · rw [if_pos u4, if_pos (by rw [fd]; rw [hT, Int.natCast_mul] at u4; exact ⟨by omega, by omega, by omega, u4⟩), hT]
            · rw [if_neg u4, if_neg (by rw [fd]; rw [hT, Int.natCast_mul] at u4; exact fun q => u4 q.2.2.2)]
          · rw [if_neg u3, if_neg (by rw [fd]; omega)]
    have l5 := (lgz (a := ((fE r).1 : Nat)) (c := (500000000 : Int)) (by omega) (by omega)).2.2.1
    have l6 := (lgz (a := (fE r).2) (c := (0 : Int)) (by omega) (by omega)).1
    unfold F_X7_findFraction_L101
    rw [show (500000000 : Int64) = J 500000000 from rfl, show (0 : Int64) = J 0 from rfl]
    simp only [l5, l6]
    rw [if_neg (by omega), c_labs (by omega), Option.bind_some]
    have tT := tf (fT r) rfl
    have tT' : F_X7_takeFraction sh f S a (J (fT r)) (J ((fE r).2.natAbs : Nat)) = _ := tT
    by_cases g : 0 ≤ (fE r).2
    · rw [if_pos g, show J ((fE r).1 : Nat) = J (fT r) by unfold fT; rw [if_pos g], tT']
      by_cases fb : fnd r = true
      · rw [if_pos fb, if_pos ⟨trivial, fb⟩]; rfl
      · rw [if_neg fb, if_neg (fun q => fb q.2)]; rfl
    · rw [if_neg g, J_neg, show J (-((fE r).1 : Nat) : Int) = J (fT r) by unfold fT; rw [if_neg g], Option.bind_some, tT']
      by_cases fb : fnd r = true
      · rw [if_pos fb, if_pos ⟨trivial, fb⟩]; rfl
      · rw [if_neg fb, if_neg (fun q => fb q.2)]; rfl
end C0b
