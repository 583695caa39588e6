/-! PARTS of the class: the ends are split. -/
section COx
variable {sh : List Sh} {f : Nat} {S : St}
theorem c_of0 {B : Bk} {bb k0 : Nat} (kb : bkC S bb B) (ok : bkOk B) (hk : k0 < bK B) : F_X0_ofKind sh f S bb (I k0) 0 = some (I (bF B k0)) := by
  have k8 : bK B ≤ 8 := ok.1.1
  rw [c_kind kb ok]
  unfold spKind
  rw [if_neg, if_pos rfl, I_clN (by omega)]
  rintro (c | c)
  · rw [show (0 : Int32) = I ((0 : Nat) : Int) from rfl, I_ltN (by omega) (by omega)] at c
    omega
  · rw [I_leN (by omega) (by omega)] at c
    omega
theorem c_split {B : Bk} {n bb k0 sd : Nat} {ek : Nat → Nat} {nu : Nat → Int} (hf : 1000 ≤ f) (hn : n ≤ 6) (ok : bkOk B) (kb : bkC S bb B) (hbb : bb = 3 ∨ bb = 61) (r10 : sR S 0 10 = some bb) (cb : ckX0 sh bb = true) (s2 : sI S 44 2 = I n) (hk : ∀ i, i < n → sA S 45 i = I (ek i) ∧ sA S 46 i = I (nu i)) (h0 : k0 < bK B) (hs : sd < 64) (c5 : spc (sB sd) n < 6) (c6 : spc (fun i => !(sB sd i)) n < 6) : ∃ S', F_X8_splitEnds sh f S 0 (I sd) (I k0) = some S' ∧ enA S' 47 (ptN (sB sd) n) (ptK (sB sd) ek n k0) (ptU (sB sd) nu n) ∧ enA S' 50 (ptN (fun i => !(sB sd i)) n) (ptK (fun i => !(sB sd i)) ek n (bF B k0)) (ptU (fun i => !(sB sd i)) nu n) ∧ ∀ y, ¬ (47 ≤ y ∧ y ≤ 52) → Sm S S' y := by
  have lp : ∀ (d i nf : Nat) (T : St), i + d = n → d < nf → enA T 47 (spc (sB sd) i) (spf (sB sd) ek 0 i) (spf (sB sd) nu 0 i) → enA T 50 (spc (fun i => !(sB sd i)) i) (spf (fun i => !(sB sd i)) ek 0 i) (spf (fun i => !(sB sd i)) nu 0 i) → (∀ y, ¬ (47 ≤ y ∧ y ≤ 52) → Sm S T y) → ∃ S', F_X8_splitEnds_L16 sh f 0 (I sd) (I k0) nf T (I i) = some S' ∧ enA S' 47 (ptN (sB sd) n) (ptK (sB sd) ek n k0) (ptU (sB sd) nu n) ∧ enA S' 50 (ptN (fun i => !(sB sd i)) n) (ptK (fun i => !(sB sd i)) ek n (bF B k0)) (ptU (fun i => !(sB sd i)) nu n) ∧ ∀ y, ¬ (47 ≤ y ∧ y ≤ 52) → Sm S S' y := by
    intro d
    induction d with
    | zero =>
      intro i nf T h1 h2 hN hF F
      obtain ⟨nf, rfl⟩ : ∃ e, nf = e + 1 := ⟨nf - 1, by omega⟩
      have : i = n := by omega
      subst this
      have t2 : sI T (0 + 44) 2 = I i := ((F 44 (by omega)).I 2).trans s2
      have tn := c_total (sh := sh) (f := f) (S := T) (t := 47) (n := spc (sB sd) i) (en := spf (sB sd) nu 0 i) hf (by omega) hN.1 (fun j hj => (hN.2 j hj).2)
      rw [sps_sum] at tn
      have tn' : F_X1_total sh f T (0 + 47) = _ := tn
      obtain ⟨U, u0, u1, u2⟩ := c_ad1 (sh := sh) (f := f) hN c5 k0 (-(sps (sB sd) nu i))
      have u0' : F_X1_add sh f T (0 + 47) (I k0) (I (-(sps (sB sd) nu i))) = some U := u0
      have hF' : enA U 50 (spc (fun i => !(sB sd i)) i) (spf (fun i => !(sB sd i)) ek 0 i) (spf (fun i => !(sB sd i)) nu 0 i) := enA_sm hF (fun x a b => u2 x (by omega) (by omega) (by omega))
      have FU : ∀ y, ¬ (47 ≤ y ∧ y ≤ 52) → Sm S U y := fun y hy => (F y hy).trans (u2 y (by omega) (by omega) (by omega))
      have tf := c_total (sh := sh) (f := f) (S := U) (t := 50) (n := spc (fun i => !(sB sd i)) i) (en := spf (fun i => !(sB sd i)) nu 0 i) hf (by omega) hF'.1 (fun j hj => (hF'.2 j hj).2)
      rw [sps_sum] at tf
      have tf' : F_X1_total sh f U (0 + 50) = _ := tf
      obtain ⟨W, w0, w1, w2⟩ := c_ad1 (sh := sh) (f := f) hF' c6 (bF B k0) (-(sps (fun i => !(sB sd i)) nu i))
      have w0' : F_X1_add sh f U (0 + 50) (I (bF B k0)) (I (-(sps (fun i => !(sB sd i)) nu i))) = some W := w0
      have rU : sR U 0 10 = some bb := ((FU 0 (by omega)).R 10).trans r10
      have kU : bkC U bb B := bkC_sm kb (fun x a b => FU x (by omega))
      refine ⟨W, ?_, enA_sm (show enA U 47 (ptN (sB sd) i) (ptK (sB sd) ek i k0) (ptU (sB sd) nu i) from u1) (fun x a b => w2 x (by omega) (by omega) (by omega)), w1, fun y hy => (FU y hy).trans (w2 y (by omega) (by omega) (by omega))⟩
      rw [F_X8_splitEnds_L16, t2, if_pos (by rw [I_leN (by omega) (by omega)]; omega), tn', Option.bind_some, I_neg, u0', Option.bind_some, rU, Option.bind_some, if_pos cb, c_of0 kU ok h0, Option.bind_some, tf', Option.bind_some, I_neg, w0', Option.bind_some]
    | succ d ih =>
      intro i nf T h1 h2 hN hF F
      obtain ⟨nf, rfl⟩ : ∃ e, nf = e + 1 := ⟨nf - 1, by omega⟩
      have t2 : sI T (0 + 44) 2 = I n := ((F 44 (by omega)).I 2).trans s2
      have a1 : sA T (0 + 44 + 1) i = I (ek i) := ((F 45 (by omega)).A i).trans (hk i (by omega)).1
      have a2 : sA T (0 + 44 + 2) i = I (nu i) := ((F 46 (by omega)).A i).trans (hk i (by omega)).2
      have nbi : ¬ (I (i : Int) < 0 ∨ 6 ≤ i) := I_bnd (show i < 6 by omega) (by omega)
      rw [F_X8_splitEnds_L16, t2, if_neg (by rw [I_leN (by omega) (by omega)]; omega)]
      simp only [nr_b hs (show i < 6 by omega)]
      unfold F_X8_splitEnds_L46
      by_cases c : sB sd i = false
      · have c' : ¬ sB sd i = true := by rw [c]; decide
        have cn : (!(sB sd i)) = true := by rw [c]; rfl
        have sc := spc_mono (fun i => !(sB sd i)) (d + 1) i
        rw [h1] at sc
        obtain ⟨U, u0, u1, u2⟩ := c_ad1 (sh := sh) (f := f) hF (by omega) (ek i) (nu i)
        have u0' : F_X1_add sh f T (0 + 50) (I (ek i)) (I (nu i)) = some U := u0
        rw [if_pos c, I_clN (show i < _ by omega), if_neg nbi, if_neg nbi, a1, a2, u0', Option.bind_some, bnd_e, I_suc]
        refine ih (i + 1) nf U (by omega) (by omega) ?_ ?_ (fun y hy => (F y hy).trans (u2 y (by omega) (by omega) (by omega)))
        · rw [spc, spf, spf, if_neg c', if_neg c', if_neg c']
          exact enA_sm hN (fun x a b => u2 x (by omega) (by omega) (by omega))
        · rw [spc, spf, spf, if_pos cn, if_pos cn, if_pos cn]
          exact u1
      · have c' : sB sd i = true := Bool.of_not_eq_false c
        have cn : ¬ (!(sB sd i)) = true := by rw [c']; decide
        have sc := spc_mono (sB sd) (d + 1) i
        rw [h1] at sc
        obtain ⟨U, u0, u1, u2⟩ := c_ad1 (sh := sh) (f := f) hN (by omega) (ek i) (nu i)
        have u0' : F_X1_add sh f T (0 + 47) (I (ek i)) (I (nu i)) = some U := u0
        rw [if_neg c, I_clN (show i < _ by omega), if_neg nbi, if_neg nbi, a1, a2, u0', Option.bind_some, bnd_e, I_suc]
        refine ih (i + 1) nf U (by omega) (by omega) ?_ ?_ (fun y hy => (F y hy).trans (u2 y (by omega) (by omega) (by omega)))
        · rw [spc, spf, spf, if_pos c', if_pos c', if_pos c']
          exact u1
        · rw [spc, spf, spf, if_neg cn, if_neg cn, if_neg cn]
          exact enA_sm hF (fun x a b => u2 x (by omega) (by omega) (by omega))
  have go := lp n 0 f (uI (uI S 47 2 0) 50 2 0) (by omega) (by omega) ⟨by rw [sI_row _ _ _ (by omega), sI_self]; rfl, fun i hi => by rw [spc] at hi; omega⟩ ⟨by rw [sI_self]; rfl, fun i hi => by rw [spc] at hi; omega⟩ (fun y hy => (by repeat' (first | exact Sm.rfl | (refine Sm.uI ?_ (by omega)) | (refine Sm.uA ?_ (by omega)) | (refine Sm.uJ ?_ (by omega)) | (refine Sm.uL ?_ (by omega)) | (refine Sm.uR ?_ (by omega)))))
  unfold F_X8_splitEnds F_X1_clear
  rw [bnd_e, Option.bind_some, bnd_e, Option.bind_some]
  exact go
end COx
