section BTa
variable {sh : List Sh} {S : St} {p : PC} {q : Option Nat} {w : Nat} {X : NS} {f : Nat}
theorem gxI_walk {g V : Nat} {H : Nat → Nat} {e : Nat → Nat → Nat} {a b c : Nat} (hf : 1000 ≤ f) (v : liV S g X V) (r11 : sR S 0 11 = some g) (ck : ckX3 sh g = true) (hG : g = 23 ∨ g = 71) (gd : gxD S g V X H e) (habc : a ≤ 3 ∧ b ≤ 3 ∧ c ≤ 3) (wk : ∀ i, i < (xG X V).length → xP X V a b c i = true → sA S (g + 15) i = I (wkN (xY X V i))) : ∀ T, xF S T → gxI sh f T g (xG X V).length (I ((16 * a + 4 * b + c : Nat) : Int)) 1 e (fun j => wkN (xY X V j) * wrN (xY X V j) V) (xP X V a b c) := by
  intro T F
  have vT : liV T g X V := liV_sm v rfl rfl rfl (fun x a b => F x (by omega)) (fun x a b => F x (by omega))
  have G20 : (xG X V).length ≤ 20 := gls_len v.1.2
  have inf : ∀ j, j < (xG X V).length → _ := fun j hj => (vT.2.2.2.2.1.2.2 j _ (xY_ok v hj).1).1
  refine ⟨((F 0 (by omega)).R 11).trans r11, ck, hG, G20, vT.2.2.2.2.1.2.1, fun j hj => ?_, fun j hj hp => ?_, fun j hj hp => ?_⟩
  · have i6 := (inf j hj).2.2.2.2.2.1
    rw [i6]
    exact pq_code (xY_ok v hj).2.1 habc
  · obtain ⟨g1, g2, g3, g4, g5⟩ := gd j hj
    have nb := yNa_b (xY_ok v hj).2.1
    have i4 : sA T (g + 11) j = I (yNa (xY X V j)) := (inf j hj).2.2.2.1
    have i5 : sA T (g + 12) j = I (H j) := ((F (g + 12) (by omega)).A j).trans g1
    have m := Nat.mul_le_mul nb.2 g3
    rw [g4]
    refine ⟨by omega, ?_⟩
    rw [i4, i5, J_I (by omega), J_I (by omega), J_mul]
    norm_cast
  · have yok := (xY_ok v hj).2.1
    have sb := wk_b yok
    have wb := wr_b yok V (by show V ≤ V; omega)
    have w3 : 99 ^ V ≤ 99 ^ 3 := Nat.pow_le_pow_right (by omega) v.1.2
    have i5 : sA T (g + 13) j = I (wrN (xY X V j) V) := (inf j hj).2.2.2.2.1
    have i15 : sA T (g + 15) j = I (wkN (xY X V j)) := ((F (g + 15) (by omega)).A j).trans (wk j hj hp)
    have tb : (wkN (xY X V j) * wrN (xY X V j) V).natAbs ≤ 10395 * 970299 := by
      rw [Int.natAbs_mul]
      exact Nat.mul_le_mul sb (by omega)
    refine ⟨(by show -9223372036854775808 < wkN (xY X V j) * wrN (xY X V j) V; omega), (by show wkN (xY X V j) * wrN (xY X V j) V < 9223372036854775808; omega), fun q => absurd q (by decide), fun _ => ?_⟩
    rw [i5, i15, J_I (by omega), J_I (by omega), J_mul]
theorem c_bp {g V : Nat} {H : Nat → Nat} {e : Nat → Nat → Nat} {a b c : Nat} (hf : 1000 ≤ f) (v : liV S g X V) (bo : bkOk (xB X)) (r11 : sR S 0 11 = some g) (ck : ckX3 sh g = true) (hG : g = 23 ∨ g = 71) (gd : gxD S g V X H e) (habc : a ≤ 3 ∧ b ≤ 3 ∧ c ≤ 3) (wk : ∀ i, i < (xG X V).length → xP X V a b c i = true → sA S (g + 15) i = I (wkN (xY X V i))) (b4 : Int32) : ∃ T' t l, F_X8_exactly sh f S 0 (I ((16 * a + 4 * b + c : Nat) : Int)) 1 b4 = some (toldV t l (b4 != 0), T') ∧ t * (pw (xE' e X V a b c) 25 : Nat) = fsL (fvN e X V a b c) none (xD X V) * l ∧ Nat.gcd t.natAbs l = 1 ∧ 0 < l ∧ xF S T' := by
  have M := xE_M (a := a) (b := b) (c := c) v bo gd
  obtain ⟨T', t, l, t0, t1, t2, t3, t4⟩ := c_exactly (sh := sh) (f := f) hf (gxI_walk hf v r11 ck hG gd habc wk) b4 (Z := 20132659200 * 970299 * DMX) (fun j hj hp => by
    have yok := (xY_ok v hj).2.1
    have sb := wk_b yok
    have wb := wr_b yok V (by show V ≤ V; omega)
    have w3 : 99 ^ V ≤ 99 ^ 3 := Nat.pow_le_pow_right (by omega) v.1.2
    have tb : (wkN (xY X V j) * wrN (xY X V j) V).natAbs ≤ 20132659200 * 970299 := by
      rw [Int.natAbs_mul]
      exact Nat.mul_le_mul (by omega) (Nat.le_trans wb w3)
    exact Nat.mul_le_mul tb (M.2.2 j)) (by
    have := Int.ofNat_lt.mpr DMX_3
    rw [Int.natCast_pow] at this
    exact this)
  refine ⟨T', t, l, t0, ?_, t2, t3, t4⟩
  have eN : sN e (fun j => wkN (xY X V j) * wrN (xY X V j) V) (xP X V a b c) (mxs e (xP X V a b c) (xG X V).length) (xG X V).length = fsL (fvN e X V a b c) none (xD X V) := by
    have l1 : fsL (fvN e X V a b c) none (xD X V) = gS (fvN e X V a b c) (xG X V).length := fsL_gS (fvN e X V a b c) (4 ^ V) (fun cc hc k hn => by
      have at' := gls_at (B := xB X) (n := xN X) (ek := xE X) (V := V) (4 ^ V) cc hc k
      have yc : xY X V (gls (xB X) (xN X) (xE X) V cc).length = yC (xB X) (xN X) (xE X) V cc := by
        unfold xY
        rw [List.getD_eq_getElem?_getD, at']
        rfl
      have z := no_rows ((okC_iff _ _ _ _).mp k) hn
      unfold fvN
      rw [yc, z, Int.zero_mul, ite_self])
    have l2 := gS_gN (xP X V a b c) (fun j => wkN (xY X V j) * xK e X V a b c j) (xG X V).length
    have l3 : (fun j => if xP X V a b c j = true then wkN (xY X V j) * xK e X V a b c j else 0) = fvN e X V a b c := rfl
    rw [l3] at l2
    rw [l1, l2, sN_gN]
    exact gN_cg (fun j hj _ => by unfold xK xE'; rw [Int.mul_assoc])
  rw [← eN]
  exact t1
theorem st_byPairings (h : inv sh S p q w X) (hf : 20000 ≤ f) (x y z b4 : Int32) : ∃ v S1 S2, F_X8_byPairings sh f S 0 x y z b4 = some (v, S1) ∧ F_X12_byPairings sh f S1 94 x y z b4 = some (v, S2) ∧ inv sh S2 p q w X := by
  have h0 := h.1
  have u111 : Sm S (uI S 94 0 0) 111 := (by repeat' (first | exact Sm.rfl | (refine Sm.uI ?_ (by omega)) | (refine Sm.uA ?_ (by omega)) | (refine Sm.uJ ?_ (by omega)) | (refine Sm.uL ?_ (by omega)) | (refine Sm.uR ?_ (by omega))))
  rcases st_pows (f := f) h x y z with ⟨a, b⟩ | ⟨V, a, b, c, l, v, abc, rfl, rfl, rfl, a1, a2⟩
  · refine ⟨-9223372036854775808, S, uI S 94 0 0, ?_, ?_, inv_u0 h 0⟩
    · unfold F_X8_byPairings
      rw [a, Option.bind_some, if_pos rfl]
    · unfold F_X12_byPairings
      simp only [bnd]
      rw [b _ (sI_ne _ _ _ (by omega)) u111, Option.bind_some, if_pos rfl]
  · obtain ⟨zz, hz, ck, qo, kr⟩ := q_some h0 v.2.1
    have V3 := v.1
    have habc : a ≤ 3 ∧ b ≤ 3 ∧ c ≤ 3 := by omega
    obtain ⟨en1, en2, en3, en4, en5⟩ := h0.2.2.2.2.2.2.2.1
    have n2 : 2 ≤ xN X := (en4 v.2.1).1
    have kbo := h0.2.2.2.2.2.2.1
    have bo : bkOk (xB X) := kbo.1
    have hG := pg h0
    have bp : p.1 = 3 ∨ p.1 = 61 := by have := h0.2.2.1.1; omega
    have b3 : ckX0 sh p.1 = true := sh0 h0.1 bp
    have l20 := v.2.2.1
    have G20 : (xG X V).length ≤ 20 := gls_len v.1.2
    -- the walk
    obtain ⟨A, w0, vA, FA, wA⟩ := c_walkAll (sh := sh) (f := f) (b := p.1) (by omega) v hG bo kbo.2.1 bp ⟨by omega, en1⟩ en2 (fun i hi => ⟨(en5 i hi).1, (en5 i hi).2.2.2.1⟩) habc (xG X V).length 0 f S (by omega) (by omega) v (fun _ _ _ _ => Sm.rfl) (fun i hi => by omega)
    have hA : inv sh A p q w X := by
      refine ⟨inv0_g h0 (fun j _ _ => (FA 94 (by omega) (by omega) (by omega)).I j) (FA 94 (by omega) (by omega) (by omega)).2.2.2.1 (fun j => (FA 94 (by omega) (by omega) (by omega)).R j) (FA 0 (by omega) (by omega) (by omega)) ((FA 13 (by omega) (by omega) (by omega)).R 2) (fun x hx => FA x (by omega) (by omega) (by omega)), jnC_sm h.2.1 (FA 22 (by omega) (by omega) (by omega)), fun _ => ⟨V, vA⟩⟩
    obtain ⟨H, e, gd⟩ := grp vA n2
    obtain ⟨S1, t, l', c0, c1, c2, c3, c4⟩ := c_bp (sh := sh) (f := f) (by omega) vA bo hA.1.2.1.2.2.1 (gp_sh h0).1 hG gd habc wA b4
    have hS1 : inv sh S1 p q w X := inv_g hA (inv0_g hA.1 (fun j _ _ => (c4 94 (by omega)).I j) (c4 94 (by omega)).2.2.2.1 (fun j => (c4 94 (by omega)).R j) (c4 0 (by omega)) ((c4 13 (by omega)).R 2) (fun x hx => c4 x (by omega))) (jnC_sm hA.2.1 (c4 22 (by omega))) ((c4 0 (by omega)).I 14) (fun x hx => c4 x (by omega))
    have v1 : liV S1 p.2.2.1 X V := liV_sm vA rfl rfl rfl (fun x a b => c4 x (by omega)) (fun x a b => c4 x (by omega))
    have gd1 : gxD S1 p.2.2.1 V X H e := fun j hj => ⟨((c4 (p.2.2.1 + 12) (by omega)).A j).trans (gd j hj).1, (gd j hj).2⟩
    have SA : ∀ x, x = 94 ∨ x = 95 ∨ 95 ≤ x → Sm S A x := fun x hx => FA x (by omega) (by omega) (by omega)
    have kr1 : bkR S1 zz (xB X) := bkR_sm kr (fun x _ _ => (SA x (by unfold qOk at qo; omega)).trans (c4 x (by unfold qOk at qo; omega)))
    obtain ⟨P, a00, a01, a02⟩ := r_set (sh := sh) (f := f) (by omega) (uI S1 94 0 0) 144 (v := 0) (by omega)
    obtain ⟨B, b00, b01, b02⟩ := r_set (sh := sh) (f := f) (by omega) P 145 (v := 1) (by omega)
    have F : fr bfs bcc S1 (uI B 94 40 (I V)) := ((((fr.rfl (fs := bfs) (cs := bcc)).uI (j := 0) _ (by decide)).trans ((fr_of (by decide) a02).mono (by decide) (by decide))).trans ((fr_of (by decide) b02).mono (by decide) (by decide))).uI _ (by decide)
    have o1 : sI B (94 + 17) 1 = I V := ((b02 111 (by omega)).I 1).trans (((a02 111 (by omega)).I 1).trans ((congrFun (sI_row S1 0 0 (show 111 ≠ 94 by omega)) 1).trans v1.2.2.2.2.2.2.1))
    obtain ⟨S2, t', l2, d0, d1, d2, d3, d4⟩ := r_bp49 (z := zz) hS1 hf v1 n2 gd1 habc (hS1.1.2.2.2.1.1.trans hz) ck qo kr1 b4 (xD X V).length 0 f (uI B 94 40 (I V)) 0 1 (by omega) (by omega) F (sI_self _ _ _ _) ⟨(wz_sm (b02 144 (by omega))).trans (a01.trans rfl), b01⟩ (by rw [List.take_zero, fsL]; simp) (by decide) (by omega)
    have lo := low_one (pw_pos _ _) c3 d3 c1 d1 c2 d2
    have a00' : F_X12_set sh f (uI S1 94 0 0) (94 + 50) 16 0 = some P := a00
    have b00' : F_X12_set sh f P (94 + 51) 16 1 = some B := b00
    have d0' : F_X12_byPairings_L49 sh f 94 (I a) (I b) (I c) b4 f (uI B 94 40 (I V)) 0 = _ := d0
    have w0' : F_X5_walkAll sh f S (0 + 13) p.1 (0 + 44) p.2.2.1 (I ((16 * a + 4 * b + c : Nat) : Int)) = some A := w0
    refine ⟨toldV t l' (b4 != 0), S1, S2, ?_, ?_, fr_inv hS1 d4 (by decide) (by decide)⟩
    · unfold F_X8_byPairings
      rw [a1, Option.bind_some, if_neg (by decide), h0.2.1.1, Option.bind_some, if_pos b3, h0.2.1.2.2.1, Option.bind_some, if_pos (gp_sh h0).1, c_pcode habc, Option.bind_some, w0', Option.bind_some, c_pcode habc, Option.bind_some, c0, Option.bind_some]
    · unfold F_X12_byPairings
      simp only [bnd]
      rw [a2 _ ((sI_ne _ _ _ (by omega)).trans (((SA 94 (by omega)).trans (c4 94 (by omega))).I 18)) (((SA 111 (by omega)).trans (c4 111 (by omega))).trans (by repeat' (first | exact Sm.rfl | (refine Sm.uI ?_ (by omega)) | (refine Sm.uA ?_ (by omega)) | (refine Sm.uJ ?_ (by omega)) | (refine Sm.uL ?_ (by omega)) | (refine Sm.uR ?_ (by omega))))), Option.bind_some, if_neg (by decide), a00', Option.bind_some, b00', Option.bind_some, o1, d0', lo.1, lo.2]
end BTa
