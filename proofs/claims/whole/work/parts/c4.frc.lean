section C4a
variable {sh : List Sh} {f : Nat} {S : St}
theorem r_if {r : Nat → Nat} (hf : 1000 ≤ f) (h : ∀ k, k < 4 → r k < pQ k) (h1 : ∀ k, k < 4 → sA S 155 k = I (r k : Nat)) : ∃ S', F_X12_isFound sh f S 94 = some (if fnd r = true then 1 else 0, S') ∧ (fnd r = true → fndS S S' r) ∧ (fnd r = false → S' = S) := by
  have p0 : pQ 0 = 1000003 := rfl
  have p1 : pQ 1 = 1000033 := rfl
  have p2 : pQ 2 = 1000037 := rfl
  have h0 := h 0 (by omega)
  have h1' := h 1 (by omega)
  have h2' := h 2 (by omega)
  obtain ⟨b1, b2, b3, b4⟩ := crt_b h
  have pr0 : F_X12_prime sh f S (0 : Int32) = some (I (pQ 0 : Nat)) := r_prm (k := 0) (by omega)
  have pr1 : F_X12_prime sh f S (1 : Int32) = some (I (pQ 1 : Nat)) := r_prm (k := 1) (by omega)
  have pr2 : F_X12_prime sh f S (2 : Int32) = some (I (pQ 2 : Nat)) := r_prm (k := 2) (by omega)
  have q0 : sA S (94 + 61) (0 : Int32).toNatClampNeg = I (r 0 : Nat) := h1 0 (by omega)
  have q1 : sA S (94 + 61) (1 : Int32).toNatClampNeg = I (r 1 : Nat) := h1 1 (by omega)
  have q2 : sA S (94 + 61) (2 : Int32).toNatClampNeg = I (r 2 : Nat) := h1 2 (by omega)
  have m1 := r_mod (sh := sh) (f := f) (S := S) (a := (pQ 0 : Nat)) (p := (pQ 1 : Nat)) (by omega) (by omega)
  have m2 := r_mod (sh := sh) (f := f) (S := S) (a := (pQ 0 * pQ 1 : Nat)) (p := (pQ 2 : Nat)) (by rw [p0, p1]; omega) (by omega)
  rw [← Int.natCast_emod] at m1 m2
  have i1 := r_inv' (sh := sh) (S := S) hf (p := pQ 1) (x := pQ 0 % pQ 1) (by omega) (Nat.mod_lt _ (by omega))
  have i2 := r_inv' (sh := sh) (S := S) hf (p := pQ 2) (x := pQ 0 * pQ 1 % pQ 2) (by omega) (Nat.mod_lt _ (by omega))
  rw [ivN_md] at i1 i2
  have l1 := ivN_lt (pQ 0) (p := pQ 1) (by omega)
  have l2 := ivN_lt (pQ 0 * pQ 1) (p := pQ 2) (by omega)
  have o : ((((r 1 : Int) - r 0) * (ivN (pQ 0) (pQ 1) : Nat)) % (pQ 1 : Nat)) = (one' r : Nat) := by
    unfold one'
    have a := Int.emod_nonneg (((r 1 : Int) - r 0) * (ivN (pQ 0) (pQ 1) : Nat)) (b := (pQ 1 : Nat)) (by omega)
    omega
  have tm := tm_md ((r 1 : Int) - r 0) (p := (pQ 1 : Nat)) (by omega)
  have tq := J_tdiv (a := (r 1 : Int) - r 0) (b := (pQ 1 : Nat)) (by omega) (by omega)
  generalize hv : ((r 1 : Int) - r 0) - ((r 1 : Int) - r 0).tdiv (pQ 1 : Nat) * (pQ 1 : Nat) = v at *
  have o2 : (v * (ivN (pQ 0) (pQ 1) : Nat)) % (pQ 1 : Nat) = (one' r : Nat) := by
    rw [Int.mul_emod, tm.1, ← Int.mul_emod, o]
  have vb : (v * (ivN (pQ 0) (pQ 1) : Nat)).natAbs ≤ 1000039 * 1000039 := by
    rw [Int.natAbs_mul]
    exact Nat.mul_le_mul (by omega) (by omega)
  have fm1 := r_mod (sh := sh) (f := f) (S := S) (a := v * (ivN (pQ 0) (pQ 1) : Nat)) (p := (pQ 1 : Nat)) (by omega) (by omega)
  rw [o2] at fm1
  have fm2 := r_mod (sh := sh) (f := f) (S := S) (a := (r 2 : Int) - two' r) (p := (pQ 2 : Nat)) (by omega) (by omega)
  have n2 := Int.emod_nonneg ((r 2 : Int) - two' r) (b := (pQ 2 : Nat)) (by omega)
  have n2' := Int.emod_lt_of_pos ((r 2 : Int) - two' r) (b := (pQ 2 : Nat)) (by omega)
  have lv : las' r = (((r 2 : Int) - two' r) % (pQ 2 : Nat)).toNat * ivN (pQ 0 * pQ 1) (pQ 2) % pQ 2 := rfl
  obtain ⟨m, hm⟩ : ∃ m : Nat, ((r 2 : Int) - two' r) % (pQ 2 : Nat) = m := ⟨(((r 2 : Int) - two' r) % (pQ 2 : Nat)).toNat, by omega⟩
  rw [hm] at fm2 lv
  have lv' : las' r = m * ivN (pQ 0 * pQ 1) (pQ 2) % pQ 2 := lv
  have mm := Nat.mul_le_mul (show m ≤ 1000039 by omega) (show ivN (pQ 0 * pQ 1) (pQ 2) ≤ 1000039 by omega)
  have fin : ∃ S', F_X12_isFound_L144 sh f 94 f S (J (RR : Nat)) (J (crt r : Nat)) 0 1 = some (if fnd r = true then 1 else 0, S') ∧ (fnd r = true → fndS S S' r) ∧ (fnd r = false → S' = S) := by
    obtain ⟨c1, c2, c3, c4⟩ := fE_b h
    have rv := RR_v
    have st : F_X12_isFound_L144 sh f 94 f S (J (RR : Nat)) (J (crt r : Nat)) (J 0) (J 1) = r221 sh f S (fE r) := r_euc (R := RR) (by omega) 63 RR (crt r) 0 1 f c3 c4 (by omega)
    have st' : F_X12_isFound_L144 sh f 94 f S (J (RR : Nat)) (J (crt r : Nat)) 0 1 = r221 sh f S (fE r) := st
    rw [st']
    exact r_221 hf h h1 (fun _ _ => rfl)
  have ec : ((two' r : Nat) : Int) + (pQ 0 : Nat) * (pQ 1 : Nat) * (las' r : Nat) = (crt r : Nat) := by
    unfold crt
    simp only [Int.natCast_add, Int.natCast_mul]
  have eR : ((pQ 0 : Nat) : Int) * (pQ 1 : Nat) * ((pQ 2 : Nat) : Int) = (RR : Nat) := by
    unfold RR
    simp only [Int.natCast_mul]
  have e2 : (r 0 : Int) + (pQ 0 : Nat) * (one' r : Nat) = (two' r : Nat) := by
    unfold two'
    simp only [Int.natCast_add, Int.natCast_mul]
  rw [Int.natCast_mul] at m2
  have fx := r_ifx (sh := sh) (f := f) (S := S) (P0 := pQ 0) (P1 := pQ 1) (P2 := pQ 2) (r0 := r 0) (r1 := r 1) (r2 := r 2) (by omega) (by omega) (by omega) pr0 pr1 pr2 q0 q1 q2 (by omega) m1 i1 (by omega) tq hv fm1 e2 fm2 m2 i2 (by omega) lv'
  rw [eR, ec] at fx
  rw [fx]
  exact fin
end C4a
