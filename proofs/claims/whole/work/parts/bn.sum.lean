section BNa
variable {sh : List Sh} {S : St} {p : PC} {q : Option Nat} {w : Nat} {X : NS} {f : Nat}
/-- the powers asked for: both say the same -/
theorem st_pows (h : inv sh S p q w X) (x y z : Int32) : (F_X8_hasPowers sh f S 0 x y z = some 0 ∧ ∀ T, sI T 94 18 = sI S 94 18 → Sm S T 111 → F_X12_areOf sh f T 94 x y z = some 0) ∨ ∃ V a b c : Nat, sI S 0 14 = 1 ∧ liV S p.2.2.1 X V ∧ a + b + c = V ∧ x = I a ∧ y = I b ∧ z = I c ∧ F_X8_hasPowers sh f S 0 x y z = some 1 ∧ ∀ T, sI T 94 18 = sI S 94 18 → Sm S T 111 → F_X12_areOf sh f T 94 x y z = some 1 := by
  have h0 := h.1
  have li := h0.2.2.2.2.2.2.2.2.2.2
  unfold F_X8_hasPowers F_X12_areOf
  rcases li.2 with l | l
  · left
    rw [l, if_pos rfl]
    refine ⟨rfl, fun T t1 t2 => ?_⟩
    rw [t1, li.1, l, if_pos rfl]
  · have l0 : ¬ sI S 0 14 = 0 := by rw [l]; decide
    have l1 : ∀ T, sI T 94 18 = sI S 94 18 → ¬ sI T 94 18 = 0 := fun T t => by rw [t, li.1, l]; decide
    rw [if_neg l0]
    by_cases c1 : x < 0
    · left
      rw [if_pos c1]
      exact ⟨rfl, fun T t1 t2 => by rw [if_neg (l1 T t1), if_pos c1]⟩
    · by_cases c2 : y < 0
      · left
        rw [if_neg c1, if_pos c2]
        exact ⟨rfl, fun T t1 t2 => by rw [if_neg (l1 T t1), if_neg c1, if_pos c2]⟩
      · by_cases c3 : z < 0
        · left
          rw [if_neg c1, if_neg c2, if_pos c3]
          exact ⟨rfl, fun T t1 t2 => by rw [if_neg (l1 T t1), if_neg c1, if_neg c2, if_pos c3]⟩
        · obtain ⟨V, v⟩ := h.2.2 l
          have s16 : sI S p.2.2.1 16 = I V := v.2.2.2.2.1.1
          have o1 := v.2.2.2.2.2.2.1
          have V3 := v.1
          obtain ⟨a, rfl, ha⟩ := I_ex x
          obtain ⟨b, rfl, hb⟩ := I_ex y
          obtain ⟨c, rfl, hc⟩ := I_ex z
          rw [show (0 : Int32) = I 0 from rfl, I_lt (by omega) (by omega)] at c1 c2 c3
          obtain ⟨a, rfl⟩ : ∃ n : Nat, a = n := ⟨a.toNat, by omega⟩
          obtain ⟨b, rfl⟩ : ∃ n : Nat, b = n := ⟨b.toNat, by omega⟩
          obtain ⟨c, rfl⟩ : ∃ n : Nat, c = n := ⟨c.toNat, by omega⟩
          have d1 : ¬ I (a : Int) < 0 := by rw [show (0 : Int32) = I 0 from rfl, I_lt (by omega) (by omega)]; omega
          have d2 : ¬ I (b : Int) < 0 := by rw [show (0 : Int32) = I 0 from rfl, I_lt (by omega) (by omega)]; omega
          have d3 : ¬ I (c : Int) < 0 := by rw [show (0 : Int32) = I 0 from rfl, I_lt (by omega) (by omega)]; omega
          have sm : (I (a : Int)).toInt64 + (I (b : Int)).toInt64 + (I (c : Int)).toInt64 = J ((a : Int) + b + c) := by
            rw [J_I (by omega), J_I (by omega), J_I (by omega), J_add, J_add]
          have sv : (I (V : Int)).toInt64 = J (V : Int) := J_I (by omega)
          have lg : (lg_cmp (J ((a : Int) + b + c)) (J (V : Int)) = 0) = (a + b + c = V) := by
            rw [(lgz (by omega) (by omega)).2.2.2]
            exact propext ⟨fun q => by omega, fun q => by omega⟩
          have li18 : ∀ T, Sm S T 111 → sI T (94 + 17) 1 = I V := fun T t => (t.I 1).trans o1
          rw [if_neg d1, if_neg d2, if_neg d3, h0.2.1.2.2.1, Option.bind_some, if_pos (gp_sh h0).1, s16, sm, sv]
          simp only [lg]
          by_cases e : a + b + c = V
          · right
            rw [if_pos e]
            refine ⟨V, a, b, c, l, v, e, rfl, rfl, rfl, rfl, fun T t1 t2 => ?_⟩
            rw [if_neg (l1 T t1), if_neg d1, if_neg d2, if_neg d3, li18 T t2, sv]
            simp only [lg]
            rw [if_pos e]
          · left
            rw [if_neg e]
            refine ⟨rfl, fun T t1 t2 => ?_⟩
            rw [if_neg (l1 T t1), if_neg d1, if_neg d2, if_neg d3, li18 T t2, sv]
            simp only [lg]
            rw [if_neg e]
theorem c_pcode {a b c : Nat} (h : a ≤ 3 ∧ b ≤ 3 ∧ c ≤ 3) : F_X8_powersCode sh f S (I a) (I b) (I c) = some (I ((16 * a + 4 * b + c : Nat) : Int)) := by
  unfold F_X8_powersCode
  have e4 : (4 : Int32) = I ((4 : Nat) : Int) := rfl
  have e2 : (2 : Int32) = I ((2 : Nat) : Int) := rfl
  rw [e4, e2, I_shl (by omega) (by omega), I_shl (by omega) (by omega), I_add, I_add]
  congr 2
  omega
theorem gxI_sum {g V : Nat} {H : Nat → Nat} {e : Nat → Nat → Nat} {a b c : Nat} (hf : 1000 ≤ f) (v : liV S g X V) (r11 : sR S 0 11 = some g) (ck : ckX3 sh g = true) (hG : g = 23 ∨ g = 71) (gd : gxD S g V X H e) (habc : a ≤ 3 ∧ b ≤ 3 ∧ c ≤ 3) : ∀ T, xF S T → gxI sh f T g (xG X V).length (I ((16 * a + 4 * b + c : Nat) : Int)) 0 e (fun j => swL j (xD X V) * wrN (xY X V j) V) (xP X V a b c) := by
  intro T F
  have vT : liV T g X V := liV_sm v rfl rfl rfl (fun x a b => F x (by omega)) (fun x a b => F x (by omega))
  have G20 : (xG X V).length ≤ 20 := gls_len v.1.2
  have inf : ∀ j, j < (xG X V).length → _ := fun j hj => (vT.2.2.2.2.1.2.2 j _ (xY_ok v hj).1).1
  refine ⟨((F 0 (by omega)).R 11).trans r11, ck, hG, G20, vT.2.2.2.2.1.2.1, fun j hj => ?_, fun j hj hp => ?_, fun j hj hp => ?_⟩
  · have i6 := (inf j hj).2.2.2.2.2.1
    rw [i6]
    exact pq_code (xY_ok v hj).2.1 habc
  · obtain ⟨g1, g2, g3, g4, g5⟩ := gd j hj
    have nb := yNa_b (xY_ok v hj).2.1
    have i4 : sA T (g + 11) j = I (yNa (xY X V j)) := (inf j hj).2.2.2.1
    have i5 : sA T (g + 12) j = I (H j) := ((F (g + 12) (by omega)).A j).trans g1
    have m := Nat.mul_le_mul nb.2 g3
    rw [g4]
    refine ⟨by omega, ?_⟩
    rw [i4, i5, J_I (by omega), J_I (by omega), J_mul]
    norm_cast
  · have sb := swL_b v j
    have yok := (xY_ok v hj).2.1
    have wb := wr_b yok V (by show V ≤ V; omega)
    have w3 : 99 ^ V ≤ 99 ^ 3 := Nat.pow_le_pow_right (by omega) v.1.2
    have i5 : sA T (g + 13) j = I (wrN (xY X V j) V) := (inf j hj).2.2.2.2.1
    have tb : (swL j (xD X V) * wrN (xY X V j) V).natAbs ≤ 20132659200 * 970299 := by
      rw [Int.natAbs_mul]
      exact Nat.mul_le_mul sb (by omega)
    refine ⟨(by show -9223372036854775808 < swL j (xD X V) * wrN (xY X V j) V; omega), (by show swL j (xD X V) * wrN (xY X V j) V < 9223372036854775808; omega), fun _ => ⟨_, c_signed hf vT (by omega), ?_⟩, fun q => absurd rfl q⟩
    rw [i5, J_I (by omega), J_mul]
theorem c_sum {g V : Nat} {H : Nat → Nat} {e : Nat → Nat → Nat} {a b c : Nat} (hf : 1000 ≤ f) (v : liV S g X V) (bo : bkOk (xB X)) (r11 : sR S 0 11 = some g) (ck : ckX3 sh g = true) (hG : g = 23 ∨ g = 71) (gd : gxD S g V X H e) (habc : a ≤ 3 ∧ b ≤ 3 ∧ c ≤ 3) (b4 : Int32) : ∃ T' t l, F_X8_exactly sh f S 0 (I ((16 * a + 4 * b + c : Nat) : Int)) 0 b4 = some (toldV t l (b4 != 0), T') ∧ t * (pw (xE' e X V a b c) 25 : Nat) = rNL (xP X V a b c) (xK e X V a b c) (xD X V) * l ∧ Nat.gcd t.natAbs l = 1 ∧ 0 < l ∧ xF S T' := by
  have M := xE_M (a := a) (b := b) (c := c) v bo gd
  obtain ⟨T', t, l, t0, t1, t2, t3, t4⟩ := c_exactly (sh := sh) (f := f) hf (gxI_sum hf v r11 ck hG gd habc) b4 (Z := 20132659200 * 970299 * DMX) (fun j hj hp => by
    have sb := swL_b v j
    have yok := (xY_ok v hj).2.1
    have wb := wr_b yok V (by show V ≤ V; omega)
    have w3 : 99 ^ V ≤ 99 ^ 3 := Nat.pow_le_pow_right (by omega) v.1.2
    have tb : (swL j (xD X V) * wrN (xY X V j) V).natAbs ≤ 20132659200 * 970299 := by
      rw [Int.natAbs_mul]
      exact Nat.mul_le_mul sb (Nat.le_trans wb w3)
    exact Nat.mul_le_mul tb (M.2.2 j)) (by
    have := Int.ofNat_lt.mpr DMX_3
    rw [Int.natCast_pow] at this
    exact this)
  refine ⟨T', t, l, t0, ?_, t2, t3, t4⟩
  have eN : sN e (fun j => swL j (xD X V) * wrN (xY X V j) V) (xP X V a b c) (mxs e (xP X V a b c) (xG X V).length) (xG X V).length = rNL (xP X V a b c) (xK e X V a b c) (xD X V) := by
    rw [sN_gN, ← gN_rNL (n := (xG X V).length) (xD X V) (fun d hd => by
      obtain ⟨i, hi⟩ := List.getElem?_of_mem hd
      obtain ⟨cc, en⟩ := enK_of v hi
      exact (en_grp v en hi).1)]
    exact gN_cg (fun j hj _ => by unfold xK xE'; rw [Int.mul_assoc])
  rw [← eN]
  exact t1
theorem st_sum (h : inv sh S p q w X) (hf : 20000 ≤ f) (x y z b4 : Int32) : ∃ v S1 S2, F_X8_sum sh f S 0 x y z b4 = some (v, S1) ∧ F_X12_sum sh f S1 94 x y z b4 = some (v, S2) ∧ inv sh S2 p q w X := by
  have h0 := h.1
  have u111 : Sm S (uI S 94 0 0) 111 := (by repeat' (first | exact Sm.rfl | (refine Sm.uI ?_ (by omega)) | (refine Sm.uA ?_ (by omega)) | (refine Sm.uJ ?_ (by omega)) | (refine Sm.uL ?_ (by omega)) | (refine Sm.uR ?_ (by omega))))
  rcases st_pows (f := f) h x y z with ⟨a, b⟩ | ⟨V, a, b, c, l, v, abc, rfl, rfl, rfl, a1, a2⟩
  · refine ⟨-9223372036854775808, S, uI S 94 0 0, ?_, ?_, inv_u0 h 0⟩
    · unfold F_X8_sum
      rw [a, Option.bind_some, if_pos rfl]
    · unfold F_X12_sum
      simp only [bnd]
      rw [b _ (sI_ne _ _ _ (by omega)) u111, Option.bind_some, if_pos rfl]
  · obtain ⟨zz, hz, ck, qo, kr⟩ := q_some h0 v.2.1
    have V3 := v.1
    have habc : a ≤ 3 ∧ b ≤ 3 ∧ c ≤ 3 := by omega
    have n2 : 2 ≤ xN X := (h0.2.2.2.2.2.2.2.1.2.2.2.1 v.2.1).1
    have bo : bkOk (xB X) := h0.2.2.2.2.2.2.1.1
    obtain ⟨H, e, gd⟩ := grp v n2
    have hG := pg h0
    obtain ⟨S1, t, l', c0, c1, c2, c3, c4⟩ := c_sum (sh := sh) (f := f) (by omega) v bo h0.2.1.2.2.1 (gp_sh h0).1 hG gd habc b4
    have hS1 : inv sh S1 p q w X := inv_g h (inv0_g h0 (fun j _ _ => (c4 94 (by omega)).I j) (c4 94 (by omega)).2.2.2.1 (fun j => (c4 94 (by omega)).R j) (c4 0 (by omega)) ((c4 13 (by omega)).R 2) (fun x hx => c4 x (by omega))) (jnC_sm h.2.1 (c4 22 (by omega))) ((c4 0 (by omega)).I 14) (fun x hx => c4 x (by omega))
    have v1 : liV S1 p.2.2.1 X V := liV_sm v rfl rfl rfl (fun x a b => c4 x (by omega)) (fun x a b => c4 x (by omega))
    have gd1 : gxD S1 p.2.2.1 V X H e := fun j hj => ⟨((c4 (p.2.2.1 + 12) (by omega)).A j).trans (gd j hj).1, (gd j hj).2⟩
    have kr1 : bkR S1 zz (xB X) := bkR_sm kr (fun x _ _ => c4 x (by unfold qOk at qo; omega))
    obtain ⟨A, a00, a01, a02⟩ := r_set (sh := sh) (f := f) (by omega) (uI S1 94 0 0) 144 (v := 0) (by omega)
    obtain ⟨B, b00, b01, b02⟩ := r_set (sh := sh) (f := f) (by omega) A 145 (v := 1) (by omega)
    have F : fr sfs scs S1 (uI B 94 40 (I V)) := ((((fr.rfl (fs := sfs) (cs := scs)).uI (j := 0) _ (by decide)).trans ((fr_of (by decide) a02).mono (by decide) (by decide))).trans ((fr_of (by decide) b02).mono (by decide) (by decide))).uI _ (by decide)
    have o1 : sI B (94 + 17) 1 = I V := ((b02 111 (by omega)).I 1).trans (((a02 111 (by omega)).I 1).trans ((congrFun (sI_row S1 0 0 (show 111 ≠ 94 by omega)) 1).trans v1.2.2.2.2.2.2.1))
    obtain ⟨S2, t', l2, d0, d1, d2, d3, d4⟩ := r_sum49 (z := zz) hS1 hf v1 n2 gd1 habc (hS1.1.2.2.2.1.1.trans hz) ck qo kr1 b4 (xD X V).length 0 f (uI B 94 40 (I V)) 0 1 (by omega) (by have := v.2.2.1; omega) F (sI_self _ _ _ _) ⟨(wz_sm (b02 144 (by omega))).trans (a01.trans rfl), b01⟩ (by rw [List.take_zero, rNL]; simp) (by decide) (by omega)
    have lo := low_one (pw_pos _ _) c3 d3 c1 d1 c2 d2
    have a00' : F_X12_set sh f (uI S1 94 0 0) (94 + 50) 16 0 = some A := a00
    have b00' : F_X12_set sh f A (94 + 51) 16 1 = some B := b00
    have d0' : F_X12_sum_L49 sh f 94 (I a) (I b) (I c) b4 f (uI B 94 40 (I V)) 0 = _ := d0
    refine ⟨toldV t l' (b4 != 0), S1, S2, ?_, ?_, fr_inv hS1 d4 (by decide) (by decide)⟩
    · unfold F_X8_sum
      rw [a1, Option.bind_some, if_neg (by decide), c_pcode habc, Option.bind_some, c0, Option.bind_some]
    · unfold F_X12_sum
      simp only [bnd]
      rw [a2 _ ((sI_ne _ _ _ (by omega)).trans ((c4 94 (by omega)).I 18)) ((c4 111 (by omega)).trans (by repeat' (first | exact Sm.rfl | (refine Sm.uI ?_ (by omega)) | (refine Sm.uA ?_ (by omega)) | (refine Sm.uJ ?_ (by omega)) | (refine Sm.uL ?_ (by omega)) | (refine Sm.uR ?_ (by omega))))), Option.bind_some, if_neg (by decide), a00', Option.bind_some, b00', Option.bind_some, o1, d0', lo.1, lo.2]
end BNa
