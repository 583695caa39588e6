section BFa
variable {sh : List Sh} {f : Nat} {S : St}
theorem lv3_split (S : St) (n : lN3 S 42) : ∃ h : Int, 0 ≤ h ∧ lv3 S 42 = (sL S 42 0).toInt + 1073741824 * (sL S 42 1).toInt + 1152921504606846976 * h ∧ (h = 0 ↔ ∀ k, 2 ≤ k → k < 12 → (sL S 42 k).toInt = 0) := by
  have z := dv_z (B := 1073741824) (x := fun k => (sL S 42 (k + 1 + 1)).toInt) (by omega) (m := 10) (fun k hk => (n (k + 1 + 1) (by omega)).1)
  refine ⟨dv 1073741824 (fun k => (sL S 42 (k + 1 + 1)).toInt) 10, z.1, ?_, z.2.trans ⟨fun q k k1 k2 => ?_, fun q k hk => q (k + 1 + 1) (by omega) (by omega)⟩⟩
  · unfold lv3
    rw [dv_low 11, dv_low 10]
    simp only [Nat.zero_add]
    omega
  · have := q (k - 2) (by omega)
    rw [show k - 2 + 1 + 1 = k by omega] at this
    exact this
theorem c_numSize (hf : 1000 ≤ f) (n : lN3 S 42) : F_X2_numeratorSize sh f S 40 = some (if lv3 S 42 < 1152921504606846976 then J (lv3 S 42) else J 900000000000000001) := by
  obtain ⟨h, h0, e, hz⟩ := lv3_split S n
  have x0 := n 0 (by omega)
  have x1 := n 1 (by omega)
  have lp : ∀ (d k nf : Nat), k + d = 12 → d < nf → 2 ≤ k → (∀ j, 2 ≤ j → j < k → (sL S 42 j).toInt = 0) → F_X2_numeratorSize_L2 sh f S 40 nf (I k) = some (if lv3 S 42 < 1152921504606846976 then J (lv3 S 42) else J 900000000000000001) := by
    intro d
    induction d with
    | zero =>
      intro k nf hk hn k2 g
      obtain ⟨nf, rfl⟩ : ∃ e, nf = e + 1 := ⟨nf - 1, by omega⟩
      have : k = 12 := by omega
      subst this
      have hz0 := hz.mpr g
      have a1 : sL S (40 + 2) (1 : Int32).toNatClampNeg = J (sL S 42 1).toInt := J_of _
      have a0 : sL S (40 + 2) (0 : Int32).toNatClampNeg = J (sL S 42 0).toInt := J_of _
      have e3 : (30 : Int32).toInt64 &&& 63 = (J ((30 : Nat) : Int)) &&& 63 := by decide
      obtain ⟨u, hu⟩ : ∃ u : Nat, (sL S 42 1).toInt = u := ⟨(sL S 42 1).toInt.toNat, by omega⟩
      rw [F_X2_numeratorSize_L2, if_pos (by decide), if_neg (by decide), if_neg (by decide), a1, a0, hu, e3, J_shl (by omega) (by omega), J_add, if_pos (by omega)]
      congr 2
      omega
    | succ d ih =>
      intro k nf hk hn k2 g
      obtain ⟨nf, rfl⟩ : ∃ e, nf = e + 1 := ⟨nf - 1, by omega⟩
      have xk := n k (by omega)
      have a1 : sL S (40 + 2) k = J (sL S 42 k).toInt := J_of _
      have l := (lgz (a := (sL S 42 k).toInt) (c := 0) (by omega) (by omega)).2.2.2
      rw [F_X2_numeratorSize_L2, if_neg (by rw [show (12 : Int32) = I ((12 : Nat) : Int) from rfl, I_leN (by omega) (by omega)]; omega), I_clN (show k < _ by omega), if_neg (I_bnd (show k < 12 by omega) (by omega)), a1, show (0 : Int64) = J 0 from rfl]
      simp only [l, bnd, I_suc]
      by_cases c : (sL S 42 k).toInt = 0
      · rw [if_pos c]
        exact ih (k + 1) nf (by omega) (by omega) (by omega) (fun j j1 j2 => by
          by_cases q : j = k
          · rw [q]; exact c
          · exact g j j1 (by omega))
      · have : h ≠ 0 := fun q => c (hz.mp q k (by omega) (by omega))
        rw [if_neg c, if_neg (by omega)]
        rfl
  exact lp 10 2 f (by omega) (by omega) (by omega) (fun j j1 j2 => by omega)
theorem pw_le (e : Nat → Nat) (m : Nat) : ∀ d, pw e m ≤ pw e (m + d)
  | 0 => Nat.le_refl _
  | d + 1 => by
    have := pw_le e m d
    rw [show m + (d + 1) = m + d + 1 by omega, pw]
    exact Nat.le_trans this (Nat.le_mul_of_pos_right _ (Nat.pow_pos (pP_ge _)))
def dsz (D : Nat) : Int64 := if D ≤ 900000000000000000 then J D else J 900000000000000001
theorem c_denSize (hf : 1000 ≤ f) {E : Nat → Nat} (hE : ∀ i, i < 25 → sA S 41 i = I (E i) ∧ E i < 63) : F_X2_denominatorSize sh f S 40 = some (dsz (pw E 25)) := by
  have lp : ∀ (d k nf : Nat), k + d = 25 → d < nf → pw E k ≤ 900000000000000000 → F_X2_denominatorSize_L4 sh f S 40 nf (J (pw E k : Nat)) (I k) = some (dsz (pw E 25)) := by
    intro d
    induction d with
    | zero =>
      intro k nf hk hn le
      obtain ⟨nf, rfl⟩ : ∃ e, nf = e + 1 := ⟨nf - 1, by omega⟩
      have : k = 25 := by omega
      subst this
      rw [F_X2_denominatorSize_L4, if_pos (by decide)]
      unfold dsz
      rw [if_pos le]
    | succ d ih =>
      intro k nf hk hn le
      obtain ⟨nf, rfl⟩ : ∃ e, nf = e + 1 := ⟨nf - 1, by omega⟩
      have k25 : k < 25 := by omega
      obtain ⟨q1, q2, q3⟩ := pP_tf ⟨k, k25⟩
      have q1' : v_tf v_T1 k = I (pP k : Int) := q1
      have pe : pP (⟨k, k25⟩ : Fin 25).val = pP k := rfl
      obtain ⟨h1, h2⟩ := hE k k25
      have h1' : sA S (40 + 1) k = I (E k) := h1
      have nb : ¬ (I (k : Int) < 0 ∨ 25 ≤ k) := I_bnd k25 (by omega)
      have inn : ∀ (c n mf : Nat), n + c = E k → c < mf → pw E k * pP k ^ n ≤ 900000000000000000 → F_X2_denominatorSize_L13 sh f S 40 (F_X2_denominatorSize_L4 sh f S 40 nf) mf (J (pw E k * pP k ^ n : Nat)) (I k) (I n) = some (dsz (pw E 25)) := by
        intro c
        induction c with
        | zero =>
          intro n mf hn2 hm le2
          obtain ⟨mf, rfl⟩ : ∃ e, mf = e + 1 := ⟨mf - 1, by omega⟩
          have : n = E k := by omega
          subst this
          rw [F_X2_denominatorSize_L13, I_clN (show k < _ by omega), if_neg nb, h1', if_pos (by rw [I_leN (by omega) (by omega)]; omega)]
          simp only [bnd, I_suc]
          exact ih (k + 1) nf (by omega) (by omega) le2
        | succ c ihc =>
          intro n mf hn2 hm le2
          obtain ⟨mf, rfl⟩ : ∃ e, mf = e + 1 := ⟨mf - 1, by omega⟩
          have pc : (I (pP k : Int)).toInt64 = J (pP k : Int) := J_I (by omega)
          have dq : 0 ≤ (900000000000000000 : Int) / (pP k : Int) ∧ (900000000000000000 : Int) / (pP k : Int) ≤ 900000000000000000 := ⟨Int.ediv_nonneg (by omega) (by omega), Int.ediv_le_self _ (by omega)⟩
          have l := (lgz (a := ((pw E k * pP k ^ n : Nat) : Int)) (c := (900000000000000000 : Int) / (pP k : Int)) (by omega) (by omega)).2.1
          have iff : (((pw E k * pP k ^ n : Nat) : Int) ≤ (900000000000000000 : Int) / (pP k : Int)) ↔ pw E k * pP k ^ n * pP k ≤ 900000000000000000 := by
            rw [Int.le_ediv_iff_mul_le (by omega), ← Int.natCast_mul]
            omega
          rw [F_X2_denominatorSize_L13, I_clN (show k < _ by omega), if_neg nb, h1', if_neg (by rw [I_leN (by omega) (by omega)]; omega), if_neg nb, q1', pc, if_neg (show ¬ J (pP k : Int) = 0 by rw [show (0 : Int64) = J 0 from rfl, J_eq (by omega) (by omega)]; omega), show (900000000000000000 : Int64) = J 900000000000000000 from rfl, J_div (by omega) (by omega)]
          simp only [l, bnd, if_neg nb]
          have ps : pw E k * pP k ^ n * pP k = pw E k * pP k ^ (n + 1) := by rw [Nat.pow_succ, Nat.mul_assoc]
          by_cases q : ((pw E k * pP k ^ n : Nat) : Int) ≤ (900000000000000000 : Int) / (pP k : Int)
          · have le3 := iff.mp q
            rw [if_pos q, J_mul, ← Int.natCast_mul, ps, I_suc]
            rw [ps] at le3
            exact ihc (n + 1) mf (by omega) (by omega) le3
          · have gt : ¬ pw E k * pP k ^ n * pP k ≤ 900000000000000000 := fun p => q (iff.mpr p)
            have m1 : pP k ^ (n + 1) ≤ pP k ^ E k := Nat.pow_le_pow_right (pP_ge k) (by omega)
            have m2 : pw E k * pP k ^ (n + 1) ≤ pw E (k + 1) := Nat.mul_le_mul_left _ m1
            have m3 := pw_le E (k + 1) (25 - (k + 1))
            rw [show k + 1 + (25 - (k + 1)) = 25 by omega] at m3
            rw [ps] at gt
            rw [if_neg q]
            unfold dsz
            rw [if_neg (by omega)]
            rfl
      rw [F_X2_denominatorSize_L4, if_neg (by rw [show (25 : Int32) = I ((25 : Nat) : Int) from rfl, I_leN (by omega) (by omega)]; omega)]
      have := inn (E k) 0 f (by omega) (by omega) (by rw [Nat.pow_zero, Nat.mul_one]; exact le)
      rw [Nat.pow_zero, Nat.mul_one] at this
      exact this
  exact lp 25 0 f (by omega) (by omega) (by rw [pw]; omega)
end BFa
