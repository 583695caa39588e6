section C2a
variable {sh : List Sh} {f : Nat} {S : St}
theorem r_221 {r : Nat → Nat} (hf : 1000 ≤ f) (h : ∀ k, k < 4 → r k < pQ k) (h1 : ∀ k, k < 4 → sA S 155 k = I (r k : Nat)) (g1 : ∀ k, 4 ≤ k → sA S 155 k = sA S 155 k) : ∃ S', r221 sh f S (fE r) = some (if fnd r = true then 1 else 0, S') ∧ (fnd r = true → fndS S S' r) ∧ (fnd r = false → S' = S) := by
  have p3 : pQ 3 = 1000039 := rfl
  obtain ⟨b1, b2, b3, b4⟩ := fE_b h
  have rv := RR_v
  have Ub : fU r ≤ RR := b2
  have tb : (fT r).natAbs = (fE r).1 := by
    unfold fT
    by_cases g : 0 ≤ (fE r).2
    · rw [if_pos g]; omega
    · rw [if_neg g]; omega
  have fd : (fnd r = true) = (1 ≤ fU r ∧ fU r ≤ 500000000 ∧ Nat.gcd (fE r).1 (fU r) = 1 ∧ (fT r - fU r * r 3) % (pQ 3 : Nat) = 0) := by
    unfold fnd
    rw [decide_eq_true_iff]
  have no : ¬ fnd r = true → ∃ S', (some ((0 : Int32), S) : Option (Int32 × St)) = some (if fnd r = true then 1 else 0, S') ∧ (fnd r = true → fndS S S' r) ∧ (fnd r = false → S' = S) := fun q => ⟨S, by rw [if_neg q], fun w => absurd w q, fun _ => rfl⟩
  have l0 := (lgz (a := (fU r : Nat)) (c := (0 : Int)) (by omega) (by omega)).2.2.2
  have l1 := (lgz (a := (fU r : Nat)) (c := (500000000 : Int)) (by omega) (by omega)).2.2.1
  have e0 : r221 sh f S (fE r) = F_X12_isFound_L221 sh f 94 S (J ((fE r).1 : Nat)) (J (fU r : Nat)) (J (fT r)) := rfl
  rw [e0]
  unfold F_X12_isFound_L221
  rw [show (500000000 : Int64) = J 500000000 from rfl, show (0 : Int64) = J 0 from rfl]
  simp only [l0, l1]
  by_cases u1 : ((fU r : Nat) : Int) = 0
  · rw [if_pos u1]
    exact no (by rw [fd]; omega)
  · rw [if_neg u1]
    by_cases u2 : (500000000 : Int) < (fU r : Nat)
    · rw [if_pos u2]
      exact no (by rw [fd]; omega)
    · have gl := Nat.gcd_le_right (n := fU r) (fE r).1 (by omega)
      have cm := r_cmn (sh := sh) (S := S) (a := (fE r).1) (b := fU r) hf b1 (by omega)
      rw [if_neg u2, J_to32 (by omega), J_to32 (by omega), cm, Option.bind_some]
      by_cases u3 : Nat.gcd (fE r).1 (fU r) = 1
      · have pr := r_prm (sh := sh) (f := f) (S := S) (k := 3) (by omega)
        have pr' : F_X12_prime sh f S (3 : Int32) = some (I (pQ 3 : Nat)) := pr
        have mU := r_mod (sh := sh) (f := f) (S := S) (a := (fU r : Nat)) (p := (pQ 3 : Nat)) (by omega) (by omega)
        have mT := r_mod (sh := sh) (f := f) (S := S) (a := fT r) (p := (pQ 3 : Nat)) (by omega) (by omega)
        have ul : fU r % pQ 3 < pQ 3 := Nat.mod_lt _ (by omega)
        have r3 := h 3 (by omega)
        rw [← Int.natCast_emod] at mU
        rw [if_pos (by rw [u3]; rfl), pr', Option.bind_some, mU, Option.bind_some]
        by_cases u4 : fU r % pQ 3 = 0
        · rw [if_pos (by rw [u4]; rfl)]
          refine no (by
            rw [fd]
            intro q
            have dU : (pQ 3 : Int) ∣ (fU r * r 3 : Int) := Int.dvd_mul_of_dvd_left (Int.natCast_dvd_natCast.mpr (Nat.dvd_of_mod_eq_zero u4))
            have dT : (pQ 3 : Int) ∣ fT r := by
              have := Int.dvd_add (Int.dvd_of_emod_eq_zero q.2.2.2) dU
              rw [Int.sub_add_cancel] at this
              exact this
            have dN : pQ 3 ∣ (fE r).1 := by
              have := Int.natAbs_dvd_natAbs.mpr dT
              rw [tb] at this
              exact this
            have dg := Nat.dvd_gcd dN (Nat.dvd_of_mod_eq_zero u4)
            rw [u3] at dg
            have := Nat.le_of_dvd (by omega) dg
            omega)
        · have m0 := Int.emod_nonneg (fT r) (b := (pQ 3 : Nat)) (by omega)
          have m1 := Int.emod_lt_of_pos (fT r) (b := (pQ 3 : Nat)) (by omega)
          have rb := Nat.mul_le_mul (show r 3 ≤ 1000039 by omega) (show fU r % pQ 3 ≤ 1000039 by omega)
          have q3 : sA S (94 + 61) (3 : Int32).toNatClampNeg = I (r 3 : Nat) := h1 3 (by omega)
          have xl : r 3 * (fU r % pQ 3) % pQ 3 < pQ 3 := Nat.mod_lt _ (by omega)
          have cq : (I (fT r % (pQ 3 : Nat)) = (J (((r 3 * (fU r % pQ 3) : Nat) : Int) % (pQ 3 : Nat))).toInt32) = ((fT r - fU r * r 3) % (pQ 3 : Nat) = 0) := by
            rw [← Int.natCast_emod, J_to32 (by omega), I_eq (by omega) (by omega), p3_eq (by omega)]
          rw [if_neg (by rw [show (0 : Int32) = I ((0 : Nat) : Int) from rfl, I_eqN (by omega) (by omega)]; omega), mT, Option.bind_some, if_neg (by decide), Option.bind_some, J_I (by omega), if_neg (show ¬ J ((pQ 3 : Nat) : Int) = J 0 from J_z (by omega)), q3, J_I (by omega), J_I (by omega), J_mul, ← Int.natCast_mul, J_rem (by omega) (by omega)]
          simp only [cq]
          by_cases u5 : (fT r - fU r * r 3) % (pQ 3 : Nat) = 0
          · have fb : fnd r = true := by rw [fd]; exact ⟨by omega, by omega, u3, u5⟩
            rw [if_pos u5]
            simp only [bnd]
            obtain ⟨S', s0, s1, s2⟩ := r_cpy (sh := sh) (f := f) (S := uJ (uJ S 94 53 (J (fT r))) 94 54 (J (fU r : Nat))) 0 (r := fun j => sA S 155 j) 4 0 f _ (by omega) (by omega) (fun _ _ => Sm.rfl) (fun j => rfl) (fun j hj => by omega)
            have s0' : F_X12_isFound_L318 sh f 94 f (uJ (uJ S 94 53 (J (fT r))) 94 54 (J (fU r : Nat))) 0 = some (1, S') := s0
            rw [s0']
            have sm := s2 94 (by omega)
            refine ⟨S', by rw [if_pos fb], fun _ => ⟨?_, ?_, fun j hj => by rw [s1 j hj]; exact h1 j hj, fun x x0 x1 => ((Sm.rfl.uJ x0).uJ x0).trans (s2 x x1), fun j => sm.I j, fun j => sm.R j, fun j j1 j2 => ?_⟩, fun q => by rw [fb] at q; cases q⟩
            · rw [sm.J, sJ_ne _ _ _ (by omega)]; exact sJ_self _ _ _ _
            · rw [sm.J]; exact sJ_self _ _ _ _
            · rw [sm.J, sJ_ne _ _ _ j2, sJ_ne _ _ _ j1]
          · rw [if_neg u5]
            exact no (by rw [fd]; exact fun q => u5 q.2.2.2)
      · rw [if_neg (by rw [show (1 : Int32) = I ((1 : Nat) : Int) from rfl, I_eqN (by omega) (by omega)]; omega)]
        exact no (by rw [fd]; omega)
end C2a
