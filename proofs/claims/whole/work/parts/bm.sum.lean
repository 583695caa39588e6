section BMa
variable {sh : List Sh} {S : St} {p : PC} {q : Option Nat} {w : Nat} {X : NS} {f V : Nat}
abbrev sfs : List Nat := [0, 25, 26, 40]
abbrev scs : List Nat := [132, 133, 134, 135, 144, 145, 146, 147, 148, 149, 150, 151]
theorem r_sum49 {z : Nat} {H : Nat → Nat} {e : Nat → Nat → Nat} {a b c : Nat} (h : inv sh S p q w X) (hf : 20000 ≤ f) (v : liV S p.2.2.1 X V) (n2 : 2 ≤ xN X) (gd : gxD S p.2.2.1 V X H e) (habc : a ≤ 3 ∧ b ≤ 3 ∧ c ≤ 3) (h5 : sR S 94 5 = some z) (ck : ckX9 sh z = true) (qo : qOk z) (kr : bkR S z (xB X)) (b4 : Int32) : ∀ (dd i nf : Nat) (T : St) (t : Int) (l : Nat), i + dd = (xD X V).length → dd < nf → fr sfs scs S T → sI T 94 40 = I V → frC T t l → t * (pw (xE' e X V a b c) 25 : Nat) = rNL (xP X V a b c) (xK e X V a b c) ((xD X V).take i) * l → Nat.gcd t.natAbs l = 1 → 0 < l → ∃ T' t' l', F_X12_sum_L49 sh f 94 (I a) (I b) (I c) b4 nf T (I i) = some (toldV t' l' (b4 != 0), T') ∧ t' * (pw (xE' e X V a b c) 25 : Nat) = rNL (xP X V a b c) (xK e X V a b c) (xD X V) * l' ∧ Nat.gcd t'.natAbs l' = 1 ∧ 0 < l' ∧ fr sfs scs S T' := by
  have l200 := v.2.2.1
  have bo : bkOk (xB X) := h.1.2.2.2.2.2.2.1.1
  obtain ⟨D0, DM, cM⟩ := xE_M (a := a) (b := b) (c := c) v bo gd
  intro dd
  induction dd with
  | zero =>
    intro i nf T t l hi hn F h40 hfr hN hg hl
    obtain ⟨nf, rfl⟩ : ∃ e, nf = e + 1 := ⟨nf - 1, by omega⟩
    have s0 : sI T (94 + 17) 0 = I ((xD X V).length : Nat) := ((F.2.2.2 111 (by decide) (by decide)).I 0).trans v.2.2.2.2.2.1.1
    rw [List.take_of_length_le (by omega)] at hN
    have tl : t.natAbs < 2 ^ 511 := by
      have nb := rNL_b (a := a) (b := b) (c := c) v bo gd (xD X V).length (Nat.le_refl _)
      rw [List.take_length] at nb
      exact Nat.lt_of_le_of_lt (Nat.le_trans (Nat.le_trans (fr_bd D0 hN hg).2 nb) (Nat.mul_le_mul_right _ l200)) DMX_4
    obtain ⟨T', t0, t1⟩ := r_told (sh := sh) (f := f) (by omega) T hfr tl b4
    rw [F_X12_sum_L49, s0, if_pos (by rw [I_leN (by omega) (by omega)]; omega), t0, Option.bind_some]
    exact ⟨T', t, l, rfl, hN, hg, hl, F.trans ((fr_lw t1).mono (by decide) (by decide))⟩
  | succ dd ih =>
    intro i nf T t l hi hn F h40 hfr hN hg hl
    obtain ⟨nf, rfl⟩ : ∃ e, nf = e + 1 := ⟨nf - 1, by omega⟩
    have s0 : sI T (94 + 17) 0 = I ((xD X V).length : Nat) := ((F.2.2.2 111 (by decide) (by decide)).I 0).trans v.2.2.2.2.2.1.1
    obtain ⟨d, hd⟩ : ∃ d, (xD X V)[i]? = some d := ⟨_, List.getElem?_eq_getElem (by omega)⟩
    obtain ⟨cc, en⟩ := enK_of v hd
    obtain ⟨dl, dY⟩ := en_grp v en hd
    have kT : ∀ x, 111 ≤ x → x ≤ 117 → Sm S T x := fun x a b => F.2.2.2 x (by omega) (by simp only [List.mem_cons, List.not_mem_nil, or_false]; omega)
    have ok := en.2.2.2.2.1
    have i200 := en.1
    have yv : yV d.2.1 = V := by rw [en.2.2.2.1]; rfl
    have yb : yB d.2.1 = xB X := by rw [en.2.2.2.1]; rfl
    have w1 := ((yHg_mem ok).mp en.2.2.2.2.2.1).1
    have ne1 := ((yHg_mem ok).mp en.2.2.2.2.2.1).2.2.1
    have ob := obal_b ok w1
    have nb2 := yNa_b ok
    have pm := sgR_pm d.2.1 d.2.2
    have re := en.2.2.2.2.2.2.2.2.2.2.1
    have hT5 : sR T 94 5 = some z := (F.R 5).trans h5
    have kT2 : bkR T z (xB X) := bkR_fr F (by decide) qo kr
    obtain ⟨U, u0, u1⟩ := r_hasP (sh := sh) (f := f) (i := i) (by omega) ok hT5 ck qo (by rw [yb]; exact kT2) i200 (fun p hp => ((kT 114 (by omega) (by omega)).A _).trans (re.1 p hp)) (by rw [yv]; exact ((kT 111 (by omega) (by omega)).I 1).trans v.2.2.2.2.2.2.1) habc
    have u0' : F_X12_hasPowers sh f T 94 (94 + 17) (I i) (I a) (I b) (I c) = _ := u0
    have FU : fr sfs scs S U := F.trans ((fr_of (by decide) u1).mono (by decide) (by decide))
    have fU : frC U t l := ⟨(wz_sm (u1 144 (by omega))).trans hfr.1, (wz_sm (u1 145 (by omega))).trans hfr.2⟩
    have tk : rNL (xP X V a b c) (xK e X V a b c) ((xD X V).take (i + 1)) = rNL (xP X V a b c) (xK e X V a b c) ((xD X V).take i) + (if xP X V a b c d.1 = true then sgR d.2.1 d.2.2 * (obN d.2.1 d.2.2 : Nat) * xK e X V a b c d.1 else 0) := by
      rw [take_s hd, rNL_app, rNL, rNL, Int.add_zero]
    have xp : xP X V a b c d.1 = pqY d.2.1 a b c := by show pqY (xY X V d.1) a b c = _; rw [dY]
    rw [F_X12_sum_L49, s0, if_neg (by rw [I_leN (by omega) (by omega)]; omega), u0', Option.bind_some]
    simp only [if10]
    by_cases pc : pqY d.2.1 a b c = true
    · rw [if_pos pc]
      have kU : ∀ x, 111 ≤ x → x ≤ 117 → Sm S U x := fun x a b => (kT x a b).trans (u1 x (by omega))
      obtain ⟨A, a0, a1, a2⟩ := r_show (sh := sh) (f := f) (T := U) (z := z) (by omega) v en kU ((FU.R 5).trans h5) ck qo (bkR_fr FU (by decide) qo kr) (by rw [(u1 94 (by omega)).I]; exact h40)
      have a0' : F_X12_shows sh f U 94 (94 + 17) (I i) = some A := a0
      have sg := r_signHere (sh := sh) (f := f) (S := A) (by omega) ok w1 a1
      have kA : ∀ x, 111 ≤ x → x ≤ 117 → Sm S A x := fun x a b => (kU x a b).trans (a2.2.2.2 x (by omega) (by simp only [List.mem_cons, List.not_mem_nil, or_false]; omega))
      have FA : fr sfs scs S A := FU.trans (a2.mono (by decide) (by decide))
      have fA : frC A t l := ⟨(wz_sm (a2.2.2.2 144 (by decide) (by decide))).trans fU.1, (wz_sm (a2.2.2.2 145 (by decide) (by decide))).trans fU.2⟩
      have o4 : sA A (94 + 17 + 4) i = I (obN d.2.1 d.2.2) := ((kA 115 (by omega) (by omega)).A i).trans re.2.2.2
      have mul : I (sgR d.2.1 d.2.2) * I (obN d.2.1 d.2.2 : Nat) = I (sgR d.2.1 d.2.2 * (obN d.2.1 d.2.2 : Nat)) := I_mul _ _
      have mb : (sgR d.2.1 d.2.2 * (obN d.2.1 d.2.2 : Nat)).natAbs ≤ 100663296 := by
        rw [Int.natAbs_mul, Int.natAbs_natCast]
        rcases pm with r | r <;> rw [r] <;> simp <;> omega
      have wb := wr_b ok (yV d.2.1) (Nat.le_refl _)
      have w3 : 99 ^ yV d.2.1 ≤ 99 ^ 3 := Nat.pow_le_pow_right (by omega) (by have := v.1.2; omega)
      have Hd : H d.1 = hvN d.2.1 d.2.2 (yL d.2.1) := by
        have x1 := (gd d.1 dl).1
        have x2 := en.2.2.2.2.2.2.2.2.2.2.2
        have hb := (gd d.1 dl).2.2.1
        have hb2 := hv_le ok w1 ne1 (by have : yN d.2.1 = xN X := by rw [en.2.2.2.1]; rfl
                                        omega)
        rw [x1, I_eqN (by omega) (by omega)] at x2
        exact x2
      have hb := (gd d.1 dl).2
      rw [Hd] at hb
      have eD := xE_D (a := a) (b := b) (c := c) gd dl (by rw [xp]; exact pc)
      rw [dY, Hd] at eD
      have rb := rNL_b (a := a) (b := b) (c := c) v bo gd i (by omega)
      have rb2 : (rNL (xP X V a b c) (xK e X V a b c) ((xD X V).take i)).natAbs ≤ 200 * (100663296 * (970299 * DMX)) := Nat.le_trans rb (Nat.mul_le_mul_right _ (by omega))
      have sm := smal_of (many := sgR d.2.1 d.2.2 * (obN d.2.1 d.2.2 : Nat)) (wr := wrN d.2.1 (yV d.2.1)) (nam := yNa d.2.1) (hv := hvN d.2.1 d.2.2 (yL d.2.1)) D0 DM hN hg hl rb2 nb2 ⟨hb.1, hb.2.1⟩ (by omega) (by omega)
      obtain ⟨B, t', l', c0, c1, c2, c3, c4, c5, c6⟩ := r_comes (sh := sh) (f := f) (q := z) (i := i) hf ok w1 a1 i200 (fun p hp => ((kA 114 (by omega) (by omega)).A _).trans (re.1 p hp)) (by rw [yv]; exact ((kA 111 (by omega) (by omega)).I 1).trans v.2.2.2.2.2.2.1) (((kA 116 (by omega) (by omega)).A i).trans re.2.2.1) (many := sgR d.2.1 d.2.2 * (obN d.2.1 d.2.2 : Nat)) (by omega) fA sm
      have c0' : F_X12_comes sh f A 94 (94 + 17) (I i) (I (sgR d.2.1 d.2.2 * (obN d.2.1 d.2.2 : Nat))) = some B := c0
      have nx := fr_nx hl eD hN c2
      rw [a0', Option.bind_some, sg, Option.bind_some, I_clN (show i < _ by omega), if_neg (I_bnd (show i < 200 by omega) (by omega)), o4, mul, c0', Option.bind_some]
      simp only [bnd, I_suc]
      refine ih (i + 1) nf B t' l' (by omega) (by omega) (FA.trans ((fr_lw c6).mono (by decide) (by decide))) (by rw [c5.2.2.1, yv]) c1 ?_ c3 c4
      rw [tk, xp, if_pos pc]
      unfold xK
      rw [dY]
      rw [yv] at nx
      exact nx
    · rw [if_neg pc]
      simp only [bnd, I_suc]
      refine ih (i + 1) nf U t l (by omega) (by omega) FU (by rw [(u1 94 (by omega)).I]; exact h40) fU ?_ hg hl
      rw [tk, xp, if_neg pc, Int.add_zero]
      exact hN
end BMa
