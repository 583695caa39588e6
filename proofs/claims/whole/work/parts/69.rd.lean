section P69
variable {sh : List Sh} {f : Nat} {S : St} {T : Nat → Int} {e d : Nat} {D : Dr} {k : TK}
theorem nm1 (h : nmB k = true) : k.1 = 1 := by
  unfold nmB at h
  exact of_decide_eq_true (Bool.and_eq_true_iff.mp h).1
theorem adv_bd (hk : tkB e k) (h5 : k.1 ≠ 5) : tkB e (adv T e k) := tok_bd (hk.2.1 h5)
theorem tk8.b (h : tk8 S e k) : tkB e k := ⟨h.1, h.2.1, h.2.2.1, h.2.2.2.1, h.2.2.2.2.1⟩
theorem pOwn_ok {a : Dr × TK} (o : dOk D) (hk : tkB e k) (h5 : k.1 ≠ 5) (h : pOwn T e D k = .inr a) : dOk a.1 ∧ bK a.1.2 ≠ 0 := by
  obtain ⟨b, h1, h2⟩ := bindP_r h
  obtain ⟨v, h3, h4⟩ := bindP_r h2
  obtain ⟨x1, x2, x3⟩ := pNew_r h1
  subst x1
  cases h4
  have hb := adv_bd (T := T) hk h5
  exact ⟨own_ok o x2 (hb.2.2.1 (nm1 x3)) (pHeavy_bd h3), Nat.succ_ne_zero _⟩
theorem pTwo_ok {a : Dr × TK} {what : Nat} (ha : what = 1 ∨ what = 2) (o : dOk D) (hk : tkB e k) (h5 : k.1 ≠ 5) (h : pTwo T e what D k = .inr a) : dOk a.1 ∧ bK a.1.2 ≠ 0 := by
  obtain ⟨b, h1, h2⟩ := bindP_r h
  obtain ⟨c, h3, h4⟩ := bindP_r h2
  obtain ⟨v, h6, h7⟩ := bindP_r h4
  obtain ⟨m, h8, h9⟩ := bindP_r h7
  obtain ⟨x1, x2, x3⟩ := pNew_r h1
  subst x1
  obtain ⟨y1, y2, y3⟩ := pNew_r h3
  subst y1
  cases h9
  have hb := adv_bd (T := T) hk h5
  have hb' := adv_bd (T := T) hb (by rw [nm1 x3]; decide)
  have mb := pInt_bd h8
  exact ⟨two_ok o y2 (hb.2.2.1 (nm1 x3)) (hb'.2.2.1 (nm1 y3)) (pHeavy_bd h6) ⟨by omega, by omega⟩ ha, Nat.succ_ne_zero _⟩
theorem pMeet_ok {a : Dr × TK} (o : dOk D) (h : pMeet T e D k = .inr a) : dOk a.1 ∧ bK a.1.2 ≠ 0 := by
  unfold pMeet at h
  by_cases c4 : 4 ≤ bR D.2
  · rw [if_pos c4] at h; cases h
  · rw [if_neg c4] at h
    obtain ⟨x, h1, h2⟩ := bindP_r h
    obtain ⟨m, h3, h4⟩ := bindP_r h2
    obtain ⟨x1, ⟨x2, xF, xH, xM, xS, xZ, xW, xL⟩, x3, x4, x5, x6⟩ := pLegs_r 5 0 D _ x h1 (by omega) (fun j hj => by omega)
    have xK : bK x.1.2 = bK D.2 := congrArg Prod.fst x2
    have xR : bR x.1.2 = bR D.2 := congrArg Prod.snd x2
    by_cases c1 : m.2.1 = 1
    · rw [if_pos c1] at h4
      by_cases c2 : tW m.2 < 1 ∨ 3 < tW m.2
      · rw [if_pos c2] at h4; cases h4
      · rw [if_neg c2] at h4
        by_cases c3 : evenR x.1.2 (bG x.1.2 (bR x.1.2)) x.2.1 = true
        · rw [if_pos c3] at h4
          cases h4
          have mb := pInt_bd h3
          obtain ⟨⟨k8, o1⟩, o2, o3, o4, o5⟩ := o
          have K0 : bK D.2 ≠ 0 := by
            have := x6 0 (by omega)
            omega
          have nh : ¬ hfT x.1.2 (bG x.1.2 (bR x.1.2)) 0 x.2.1 := by
            intro hh
            unfold evenR at c3
            have := (Bool.and_eq_true_iff.mp (Bool.and_eq_true_iff.mp c3).2).2
            rw [halfTw_iff.mpr hh] at this
            cases this
          refine ⟨⟨⟨by show bK x.1.2 ≤ 8; omega, fun i hi => ?_⟩, by show bR x.1.2 + 1 ≤ 4; omega, fun r hr => ?_, fun z => ?_, fun i hi => ?_⟩, by show bK x.1.2 ≠ 0; omega⟩
          · have hi' : i < bK x.1.2 := hi
            show bF x.1.2 i < bK x.1.2 ∧ bF x.1.2 (bF x.1.2 i) = i ∧ 1 ≤ bH x.1.2 i ∧ bH x.1.2 i ≤ 99 ∧ bH x.1.2 (bF x.1.2 i) = bH x.1.2 i ∧ -9 ≤ bM x.1.2 i ∧ bM x.1.2 i ≤ 9 ∧ bM x.1.2 (bF x.1.2 i) = - bM x.1.2 i ∧ bS x.1.2 i ≤ 2 ∧ bS x.1.2 (bF x.1.2 i) = bS x.1.2 i ∧ (bS x.1.2 i = 2 → bF x.1.2 i ≠ i)
            rw [xF, xH, xM, xS, xK]
            exact o1 i (by omega)
          · have hr' : r < bR x.1.2 + 1 := hr
            by_cases cr : r = bR x.1.2
            · subst cr
              show 3 ≤ up1 (bZ x.1.2) (bR x.1.2) x.2.1 (bR x.1.2) ∧ up1 (bZ x.1.2) (bR x.1.2) x.2.1 (bR x.1.2) ≤ 4 ∧ -99 ≤ up1 (bW x.1.2) (bR x.1.2) m.1 (bR x.1.2) ∧ up1 (bW x.1.2) (bR x.1.2) m.1 (bR x.1.2) ≤ 99 ∧ up1 (bL x.1.2) (bR x.1.2) (tW m.2 - 1) (bR x.1.2) < 3 ∧ ∀ k, k < up1 (bZ x.1.2) (bR x.1.2) x.2.1 (bR x.1.2) → bG x.1.2 (bR x.1.2) k < bK x.1.2 ∧ ∀ j, j < k → bS x.1.2 (bG x.1.2 (bR x.1.2) k) = 2 → bG x.1.2 (bR x.1.2) j ≠ bG x.1.2 (bR x.1.2) k
              simp only [up1_self]
              refine ⟨x4, x5, by omega, by omega, by omega, fun k hk => ⟨?_, fun j hj hs he => nh ⟨k, Nat.zero_le _, hk, hs, j, hj, he⟩⟩⟩
              rw [xR, xK]
              exact x6 k hk
            · have rD : r < bR D.2 := by omega
              exact bkRule_up (B := D.2) (o3 r rD) (by show bK D.2 ≤ bK x.1.2; omega) ((up1_ne _ _ cr).trans (congrFun xZ r)) ((up1_ne _ _ cr).trans (congrFun xW r)) ((up1_ne _ _ cr).trans (congrFun xL r)) (x3 r (by omega)) (fun i _ => congrFun xS i)
          · exact absurd z (by show ¬ bK x.1.2 = 0; omega)
          · have hi' : i < bK x.1.2 := hi
            show x.1.1 i < _
            rw [x1]
            exact o5 i (by omega)
        · rw [if_neg c3] at h4; cases h4
    · rw [if_neg c1] at h4; cases h4
theorem pLine_ok {a : Dr × TK} (o : dOk D) (hk : tkB e k) (h : pLine T e D k = .inr a) : dOk a.1 ∧ bK a.1.2 ≠ 0 := by
  unfold pLine at h
  by_cases c : k.1 = 1
  · have h5 : k.1 ≠ 5 := by rw [c]; decide
    rw [if_pos c] at h
    by_cases c1 : tW k = 16110
    · rw [if_pos c1] at h; exact pOwn_ok o hk h5 h
    · rw [if_neg c1] at h
      by_cases c2 : tW k = 525618
      · rw [if_pos c2] at h; exact pTwo_ok (Or.inl rfl) o hk h5 h
      · rw [if_neg c2] at h
        by_cases c3 : tW k = 263558
        · rw [if_pos c3] at h; exact pTwo_ok (Or.inr rfl) o hk h5 h
        · rw [if_neg c3] at h
          by_cases c4 : tW k = 431284
          · rw [if_pos c4] at h; exact pMeet_ok o h
          · rw [if_neg c4] at h; cases h
  · rw [if_neg c] at h; cases h
theorem rdL.bool {o : Option (Int32 × St)} {x : PR (Dr × TK)} (h : rdL S d T e o x) : rdL S d T e (o.bind fun y => if ¬ (y.1 = 0 ∨ y.1 = 1) then none else some (y.1, y.2)) x := by
  obtain ⟨b, S', h1, h2, h3⟩ := h
  refine ⟨b, S', ?_, h2, h3⟩
  rw [h1, Option.bind_some, if_neg]
  cases x with
  | inl a => show ¬ ¬ (b = 0 ∨ b = 1); rw [h3.1]; decide
  | inr a => show ¬ ¬ (b = 0 ∨ b = 1); rw [h3.1]; decide
theorem c_line (hT : ∀ i, -128 ≤ T i ∧ T i ≤ 127) (he : e ≤ 400) (hf : 1000 ≤ f) (hd : 3 ≤ d) (ck : ckX0 sh d = true) (hD : dOk D) (h : rdC S d T e D k (bK D.2)) : rdL S d T e (F_X6_readLine sh f S 1) (pLine T e D k) := by
  have q1 : (sI S 1 4 = 1) = (k.1 = 1) := tk_eq (n := 1) h (by omega)
  have st : sI S 1 5 = I (tS_ k) := h.2.2.2.1.2.1
  unfold F_X6_readLine pLine
  simp only [q1]
  by_cases c : k.1 = 1
  · have h5 : k.1 ≠ 5 := by rw [c]; decide
    have w := h.2.2.2.1.2.2.2.1 c
    have b := h.2.2.2.2.2.2.2.1 c
    have e1 : (sJ S 1 6 = (16110 : Int64)) = (tW k = 16110) := by rw [w]; exact J_eqN (b := 16110) (by unfold tW at b; omega) (by omega)
    have e2 : (sJ S 1 6 = (525618 : Int64)) = (tW k = 525618) := by rw [w]; exact J_eqN (b := 525618) (by unfold tW at b; omega) (by omega)
    have e3 : (sJ S 1 6 = (263558 : Int64)) = (tW k = 263558) := by rw [w]; exact J_eqN (b := 263558) (by unfold tW at b; omega) (by omega)
    have e4 : (sJ S 1 6 = (431284 : Int64)) = (tW k = 431284) := by rw [w]; exact J_eqN (b := 431284) (by unfold tW at b; omega) (by omega)
    simp only [if_pos c, lgc, e1, e2, e3, e4]
    by_cases c1 : tW k = 16110
    · rw [if_pos c1, if_pos c1]
      exact (c_own hT he hf hd ck h h5).bool
    · rw [if_neg c1, if_neg c1]
      by_cases c2 : tW k = 525618
      · rw [if_pos c2, if_pos c2]
        exact (c_two (what := 1) (Or.inl rfl) hT he hf hd ck h h5).bool
      · rw [if_neg c2, if_neg c2]
        by_cases c3 : tW k = 263558
        · rw [if_pos c3, if_pos c3]
          exact (c_two (what := 2) (Or.inr rfl) hT he hf hd ck h h5).bool
        · rw [if_neg c3, if_neg c3]
          by_cases c4 : tW k = 431284
          · rw [if_pos c4, if_pos c4]
            exact (c_meet hT he hf hd ck hD.w h h5).bool
          · rw [if_neg c4, if_neg c4, fail_ok, Option.bind_some, if_neg n01]
            exact ⟨0, _, rfl, fail_fD, rfl, rfl, st⟩
  · simp only [if_neg c, fail_ok, Option.bind_some, if_neg n01]
    exact ⟨0, _, rfl, fail_fD, rfl, rfl, st⟩
theorem c_lines {p1 : Int32} (hT : ∀ i, -128 ≤ T i ∧ T i ≤ 127) (he : e ≤ 400) (hf : 1000 ≤ f) (hd : 3 ≤ d) (ck : ckX0 sh d = true) : ∀ (r i nf : Nat) (S : St) (D : Dr) (k : TK), i + r = 400 → r < nf → dOk D → rdC S d T e D k (bK D.2) → ∃ b S', F_X6_read_L33 sh f 1 p1 nf S (I i) = some (b, S') ∧ fD S S' d ∧ (match pLines T e r D k with
    | .inl a => b = 0 ∧ flt S' a
    | .inr D' => b = 1 ∧ dC S' d D' (bK D'.2) ∧ dOk D' ∧ bK D'.2 ≠ 0 ∧ sI S' 1 8 = I 0) := by
  intro r
  induction r with
  | zero =>
    intro i nf S D k h1 h2 hD h
    obtain ⟨nf, rfl⟩ : ∃ e, nf = e + 1 := ⟨nf - 1, by omega⟩
    have c : (400 : Int32) ≤ I i := by rw [show (400 : Int32) = I ((400 : Nat) : Int) from rfl, I_leN (by omega) (by omega)]; omega
    rw [F_X6_read_L33, if_pos c, fail_ok, Option.bind_some, if_neg n01]
    exact ⟨0, _, rfl, fail_fD, rfl, rfl, h.2.2.2.1.2.1⟩
  | succ r ih =>
    intro i nf S D k h1 h2 hD h
    obtain ⟨nf, rfl⟩ : ∃ e, nf = e + 1 := ⟨nf - 1, by omega⟩
    have c : ¬ (400 : Int32) ≤ I i := by rw [show (400 : Int32) = I ((400 : Nat) : Int) from rfl, I_leN (by omega) (by omega)]; omega
    obtain ⟨b, S1, g1, g2, g3⟩ := c_line (sh := sh) hT he hf hd ck hD h
    rw [F_X6_read_L33, if_neg c, g1, Option.bind_some, pLines]
    cases hp : pLine T e D k with
    | inl a =>
      rw [hp] at g3
      obtain ⟨rfl, g4⟩ := g3
      exact ⟨0, S1, rfl, g2, rfl, g4⟩
    | inr a =>
      rw [hp] at g3
      obtain ⟨rfl, g4⟩ := g3
      obtain ⟨o1, o2⟩ := pLine_ok hD h.2.2.2.2.2.b hp
      have q0 : (sI S1 1 4 = 0) = (a.2.1 = 0) := tk_eq (n := 0) g4 (by omega)
      have q3 : (sI S1 1 4 = 3) = (a.2.1 = 3) := tk_eq (n := 3) g4 (by omega)
      simp only [if_neg i10, q0, q3]
      simp only [bindP]
      by_cases c0 : a.2.1 = 0
      · rw [if_pos c0, if_pos c0]
        exact ⟨1, S1, rfl, g2, rfl, g4.2.2.2.2.1, o1, o2, g4.2.2.2.2.2.2.2.2.2.2⟩
      · rw [if_neg c0, if_neg c0]
        by_cases c3 : a.2.1 = 3
        · rw [if_pos c3, if_pos c3]
          obtain ⟨S2, y1, y2, y3⟩ := c_advR (sh := sh) hT he hf (by omega) g4 (by omega)
          rw [y1, Option.bind_some]
          simp only [bnd]
          rw [show (1 : Int32) = I 1 from rfl, I_add]
          obtain ⟨b, S3, z1, z2, z3⟩ := ih (i + 1) nf S2 a.1 (adv T e a.2) (by omega) (by omega) o1 y2
          exact ⟨b, S3, z1, (g2.trans y3).trans z2, z3⟩
        · rw [if_neg c3, if_neg c3, fail_ok, Option.bind_some, if_neg n01]
          exact ⟨0, _, rfl, g2.trans fail_fD, rfl, rfl, g4.2.2.2.1.2.1⟩
theorem c_read {D0 : Dr} (hT : ∀ i, -128 ≤ T i ∧ T i ≤ 127) (he : e ≤ 400) (hf : 1000 ≤ f) (hd : 3 ≤ d) (ck : ckX0 sh d = true) (h1 : ∀ i, i < e → sA S 2 i = I (T i)) (h2 : sR S 1 10 = some d) : ∃ b S', F_X6_read sh f S 1 (I e) = some (b, S') ∧ fD S S' d ∧ (match pText T e D0 with
    | .inl a => b = 0 ∧ flt S' a
    | .inr D' => b = 1 ∧ dC S' d D' (bK D'.2) ∧ dOk D' ∧ bK D'.2 ≠ 0 ∧ sI S' 1 8 = I 0) := by
  have s1 : ∀ j, sI (uI (uI (uI (uI (uI (uI S 1 2 (I e)) 1 3 0) 1 8 0) 1 9 (-1)) d 9 0) d 10 0) 1 j = sI (uI (uI (uI (uI S 1 2 (I e)) 1 3 0) 1 8 0) 1 9 (-1)) 1 j := fun j => (congrFun (sI_row _ _ _ (by omega)) j).trans (congrFun (sI_row _ _ _ (by omega)) j)
  have f0 : fD S (uI (uI (uI (uI (uI (uI S 1 2 (I e)) 1 3 0) 1 8 0) 1 9 (-1)) d 9 0) d 10 0) d := ⟨fun c a b => (by repeat' (first | exact Sm.rfl | (refine Sm.uI ?_ (by omega)) | (refine Sm.uA ?_ (by omega)) | (refine Sm.uJ ?_ (by omega)) | (refine Sm.uL ?_ (by omega)) | (refine Sm.uR ?_ (by omega)))), s1 1, rfl⟩
  have rN : rdN (uI (uI (uI (uI (uI (uI S 1 2 (I e)) 1 3 0) 1 8 0) 1 9 (-1)) d 9 0) d 10 0) d T e (D0.1, ((0, 0), D0.2.2)) 0 0 := by
    refine ⟨s1 2, h1, h2, s1 3, ⟨Nat.zero_le _, s1 8⟩, ⟨⟨?_, sI_self _ _ _ _, fun i hi => by omega, fun r hr => absurd hr (Nat.not_lt_zero _)⟩, Nat.zero_le _, Nat.zero_le _, fun i hi => absurd hi (Nat.not_lt_zero _)⟩⟩
    exact (sI_ne _ _ _ (by omega)).trans (sI_self _ _ _ _)
  obtain ⟨S1, g1, g2, g3⟩ := c_advN (sh := sh) hT he hf (by omega) rN
  have o0 : dOk (D0.1, ((0, 0), D0.2.2)) := ⟨⟨Nat.zero_le _, fun i hi => absurd hi (Nat.not_lt_zero _)⟩, Nat.zero_le _, fun r hr => absurd hr (Nat.not_lt_zero _), fun _ => rfl, fun i hi => absurd hi (Nat.not_lt_zero _)⟩
  obtain ⟨b, S2, a1, a2, a3⟩ := c_lines (sh := sh) (f := f) (p1 := I e) hT he hf hd ck 400 0 f S1 _ _ (by omega) (by omega) o0 g2
  have p : sR (uI (uI (uI (uI S 1 2 (I e)) 1 3 0) 1 8 0) 1 9 (-1)) 1 10 = some d := h2
  refine ⟨b, S2, ?_, (f0.trans g3).trans a2, a3⟩
  unfold F_X6_read
  simp only [bnd, p, Option.bind_some, if_pos ck, F_X0_clear, g1]
  exact a1
end P69
