section P67
variable {sh : List Sh} {f : Nat} {S : St} {T : Nat → Int} {e d u m : Nat} {D : Dr} {k : TK} {B : Bk}
theorem lgc_lt {a c : Nat} (ha : a < 9223372036854775808) (hc : c < 9223372036854775808) : (lg_cmp (J a) (J c) < 0) = (a < c) := by
  unfold lg_cmp
  have g : (J a > J c) = (c < a) := by
    show (J c < J a) = _
    rw [J_lt (by omega) (by omega)]
    exact propext ⟨fun h => by omega, fun h => by omega⟩
  simp only [g, J_eqN ha hc]
  by_cases c1 : c < a
  · rw [if_pos c1]; exact propext ⟨fun h => absurd h (by decide), fun h => by omega⟩
  · rw [if_neg c1]
    by_cases c2 : a = c
    · rw [if_pos c2]; exact propext ⟨fun h => absurd h (by decide), fun h => by omega⟩
    · rw [if_neg c2]; exact propext ⟨fun _ => by omega, fun _ => by decide⟩
theorem lgc_le {a c : Nat} (ha : a < 9223372036854775808) (hc : c < 9223372036854775808) : (lg_cmp (J a) (J c) ≤ 0) = (a ≤ c) := by
  unfold lg_cmp
  have g : (J a > J c) = (c < a) := by
    show (J c < J a) = _
    rw [J_lt (by omega) (by omega)]
    exact propext ⟨fun h => by omega, fun h => by omega⟩
  simp only [g, J_eqN ha hc]
  by_cases c1 : c < a
  · rw [if_pos c1]; exact propext ⟨fun h => absurd h (by decide), fun h => by omega⟩
  · rw [if_neg c1]
    by_cases c2 : a = c
    · rw [if_pos c2]; exact propext ⟨fun _ => by omega, fun _ => by decide⟩
    · rw [if_neg c2]; exact propext ⟨fun _ => by omega, fun _ => by decide⟩
theorem J_to32 {a : Nat} (ha : a < 2147483648) : (J a).toInt32 = I a := by
  rw [← Int32.toInt_inj, Int64.toInt_toInt32, J_toInt (by omega), I_toInt (by omega)]
  exact Int.bmod_eq_of_le (by omega) (by omega)
theorem cl_dC {n le : Nat} {wo : Int} (h : dC S d D u) (o : opn S d D n) : dC (uI (uA (uA S (d + 7) (bR D.2) (I wo)) (d + 8) (bR D.2) (I le)) d 10 (I ((bR D.2 + 1 : Nat) : Int))) d (D.1, dRule D.2 n wo le) u := by
  obtain ⟨⟨h1, h2, h3, h4⟩, h5, h6, h7⟩ := h
  obtain ⟨o1, o2, o3, o4⟩ := o
  refine ⟨⟨?_, sI_self _ _ _ _, fun j hj => ?_, fun r hr => ?_⟩, h5, by show bR D.2 + 1 ≤ 4; omega, h7⟩
  · exact (sI_ne _ _ _ (by omega)).trans h1
  · show sA (uA (uA S (d + 7) (bR D.2) (I wo)) (d + 8) (bR D.2) (I le)) (d + 2) j = _ ∧ sA (uA (uA S (d + 7) (bR D.2) (I wo)) (d + 8) (bR D.2) (I le)) (d + 3) j = _ ∧ sA (uA (uA S (d + 7) (bR D.2) (I wo)) (d + 8) (bR D.2) (I le)) (d + 4) j = _ ∧ sA (uA (uA S (d + 7) (bR D.2) (I wo)) (d + 8) (bR D.2) (I le)) (d + 5) j = _
    rw [sA_row _ _ _ (by omega), sA_row _ _ _ (by omega), sA_row _ _ _ (by omega), sA_row _ _ _ (by omega), sA_row _ _ _ (by omega), sA_row _ _ _ (by omega), sA_row _ _ _ (by omega), sA_row _ _ _ (by omega)]
    exact h3 j hj
  · have hr' : r < bR D.2 + 1 := hr
    have s6 : sA (uA (uA S (d + 7) (bR D.2) (I wo)) (d + 8) (bR D.2) (I le)) (d + 6) r = sA S (d + 6) r := by rw [sA_row _ _ _ (by omega), sA_row _ _ _ (by omega)]
    have s9 : ∀ x, sA (uA (uA S (d + 7) (bR D.2) (I wo)) (d + 8) (bR D.2) (I le)) (d + 9) x = sA S (d + 9) x := fun x => by rw [sA_row _ _ _ (by omega), sA_row _ _ _ (by omega)]
    have s7 : sA (uA (uA S (d + 7) (bR D.2) (I wo)) (d + 8) (bR D.2) (I le)) (d + 7) r = up1 (sA S (d + 7)) (bR D.2) (I wo) r := by rw [sA_row _ _ _ (by omega), sA_uA, if_pos rfl]
    have s8 : sA (uA (uA S (d + 7) (bR D.2) (I wo)) (d + 8) (bR D.2) (I le)) (d + 8) r = up1 (sA S (d + 8)) (bR D.2) (I le) r := by rw [sA_uA, if_pos rfl, sA_row _ _ _ (by omega)]
    show sA (uA (uA S (d + 7) (bR D.2) (I wo)) (d + 8) (bR D.2) (I le)) (d + 6) r = I ((up1 (bZ D.2) (bR D.2) n r : Nat) : Int) ∧ sA (uA (uA S (d + 7) (bR D.2) (I wo)) (d + 8) (bR D.2) (I le)) (d + 7) r = I (up1 (bW D.2) (bR D.2) wo r) ∧ sA (uA (uA S (d + 7) (bR D.2) (I wo)) (d + 8) (bR D.2) (I le)) (d + 8) r = I ((up1 (bL D.2) (bR D.2) le r : Nat) : Int) ∧ ∀ k, k < up1 (bZ D.2) (bR D.2) n r → sA (uA (uA S (d + 7) (bR D.2) (I wo)) (d + 8) (bR D.2) (I le)) (d + 9) (4 * r + k) = I (bG D.2 r k)
    rw [s6, s7, s8]
    simp only [s9, up1_if]
    by_cases c : r = bR D.2
    · simp only [if_pos c, c]
      exact ⟨o3, rfl, rfl, fun k hk => (o4 k hk).2⟩
    · simp only [if_neg c]
      exact h4 r (by omega)
theorem cl_rdN {r : Nat} {x y z : Int32} {D' : Dr} (hd : 3 ≤ d) (h : rdN S d T e D m u) (g : dC (uI (uA (uA S (d + 7) r x) (d + 8) r y) d 10 z) d D' u) : rdN (uI (uA (uA S (d + 7) r x) (d + 8) r y) d 10 z) d T e D' m u := by
  obtain ⟨h1, h2, h3, h4, h5, h6⟩ := h
  have s1 : ∀ j, sI (uI (uA (uA S (d + 7) r x) (d + 8) r y) d 10 z) 1 j = sI S 1 j := fun j => congrFun (sI_row _ _ _ (by omega)) j
  refine ⟨(s1 2).trans h1, fun j hj => ?_, h3, (s1 3).trans h4, ⟨h5.1, (s1 8).trans h5.2⟩, g⟩
  show sA (uA (uA S (d + 7) r x) (d + 8) r y) 2 j = _
  rw [sA_row _ _ _ (by omega), sA_row _ _ _ (by omega)]
  exact h2 j hj
theorem cl_fD {r : Nat} {x y z : Int32} (hd : 3 ≤ d) : fD S (uI (uA (uA S (d + 7) r x) (d + 8) r y) d 10 z) d := ⟨fun c _ a => (by repeat' (first | exact Sm.rfl | (refine Sm.uI ?_ (by omega)) | (refine Sm.uA ?_ (by omega)) | (refine Sm.uJ ?_ (by omega)) | (refine Sm.uL ?_ (by omega)) | (refine Sm.uR ?_ (by omega)))), congrFun (sI_row _ _ _ (by omega)) 1, rfl⟩
/-- what the numbers of a draft keep to -/
def dW (D : Dr) : Prop := (∀ i, i < bK D.2 → -9 ≤ bM D.2 i ∧ bM D.2 i ≤ 9) ∧ (∀ i, i < bK D.2 → bS D.2 i ≤ 2) ∧ ∀ r, r < bR D.2 → bZ D.2 r ≤ 4
theorem c_meet (hT : ∀ i, -128 ≤ T i ∧ T i ≤ 127) (he : e ≤ 400) (hf : 1000 ≤ f) (hd : 3 ≤ d) (ck : ckX0 sh d = true) (hD : dW D) (h : rdC S d T e D k (bK D.2)) (hk : k.1 ≠ 5) : rdL S d T e (F_X6_readMeet sh f S 1) (pMeet T e D k) := by
  have p1 := h.2.2.1
  have st : sI S 1 5 = I (tS_ k) := h.2.2.2.1.2.1
  have r4 := h.2.2.2.2.1.2.2.1
  have rr := h.2.2.2.2.1.1.2.1
  have q4 : (sI S d 10 < 4) = (bR D.2 < 4) := by rw [rr]; exact I_ltN (b := 4) (by omega) (by omega)
  unfold F_X6_readMeet pMeet
  simp only [bnd, p1, Option.bind_some, if_pos ck, F_X0_openRule, q4, st]
  by_cases c4 : bR D.2 < 4
  · have cl : (sI S d 10).toNatClampNeg = bR D.2 := by rw [rr]; exact I_clN (by omega)
    have cg : ¬ (sI S d 10 < 0 ∨ 4 ≤ bR D.2) := by
      rw [rr, show (0 : Int32) = I 0 from rfl, I_lt (by omega) (by omega)]; omega
    rw [if_neg (by omega : ¬ 4 ≤ bR D.2)]
    simp only [if_pos c4, cl, if_neg cg, Option.bind_some, if_neg i10]
    have fU : fD S (uA S (d + 6) (bR D.2) 0) d := ⟨fun c _ a => (by repeat' (first | exact Sm.rfl | (refine Sm.uI ?_ (by omega)) | (refine Sm.uA ?_ (by omega)) | (refine Sm.uJ ?_ (by omega)) | (refine Sm.uL ?_ (by omega)) | (refine Sm.uR ?_ (by omega)))), rfl, rfl⟩
    have oU : opn (uA S (d + 6) (bR D.2) 0) d D 0 := ⟨c4, by omega, by rw [sA_uA, if_pos rfl, up1_self]; rfl, fun j hj => by omega⟩
    have rU : rdC (uA S (d + 6) (bR D.2) 0) d T e D k (bK D.2) := by
      obtain ⟨h1, h2, h3, h4, ⟨⟨b1, b2, b3, b4⟩, h5, h6, h7⟩, h8⟩ := h
      refine ⟨h1, fun j hj => ?_, h3, h4, ⟨⟨b1, b2, fun j hj => ?_, fun r hr => ?_⟩, h5, h6, h7⟩, h8⟩
      · rw [sA_row _ _ _ (by omega)]; exact h2 j hj
      · rw [sA_row _ _ _ (by omega), sA_row _ _ _ (by omega), sA_row _ _ _ (by omega), sA_row _ _ _ (by omega)]; exact b3 j hj
      · obtain ⟨a1, a2, a3, a4⟩ := b4 r hr
        refine ⟨?_, ?_, ?_, fun k hk => ?_⟩
        · rw [sA_uA, if_pos rfl, up1_ne _ _ (by omega)]; exact a1
        · rw [sA_row _ _ _ (by omega)]; exact a2
        · rw [sA_row _ _ _ (by omega)]; exact a3
        · rw [sA_row _ _ _ (by omega)]; exact a4 k hk
    obtain ⟨S1, g1, g2, g3⟩ := c_advQ (sh := sh) hT he hf (by omega) rU hk
    obtain ⟨b2, S2, a1, a2, a3⟩ := c_legs (sh := sh) (f := f) hT he hf hd ck 5 0 f S1 D (adv T e k) (by omega) (by omega) hD.2.2 g2 (opn_sm (by omega) oU g3)
    have a1' : F_X6_readLegs sh f S1 1 = some (b2, S2) := a1
    have f2 := (fU.trans g3.fD).trans a2
    rw [g1, Option.bind_some, a1', Option.bind_some]
    cases hp : pLegs T e 5 D 0 (adv T e k) with
    | inl x =>
      rw [hp] at a3
      obtain ⟨rfl, a4⟩ := a3
      exact ⟨0, S2, rfl, f2, rfl, a4⟩
    | inr x =>
      rw [hp] at a3
      obtain ⟨rfl, a4, a5, a6, a7, a8, a9, a10, a11, a12, a13⟩ := a3
      have xK : bK x.1.2 = bK D.2 := congrArg Prod.fst a8
      obtain ⟨S3, y1, y2, y3⟩ := c_advQ (sh := sh) hT he hf (by omega) a4 (by omega)
      obtain ⟨b4, S4, t1, t2, t3⟩ := c_intC (sh := sh) (most := 99) (zok := false) hT he hf (by omega) (by omega) y2
      have t1' : F_X6_readInt sh f S3 1 99 0 = some (b4, S4) := t1
      simp only [if_neg i10, y1, Option.bind_some, t1']
      show rdL S d T e _ (bindP (pInt T e 99 false (adv T e x.2.2)) _)
      cases hi : pInt T e 99 false (adv T e x.2.2) with
      | inl w =>
        rw [hi] at t3
        obtain ⟨rfl, t4⟩ := t3
        exact ⟨0, S4, rfl, (f2.trans y3.fD).trans t2.fD, rfl, t4⟩
      | inr w =>
        rw [hi] at t3
        obtain ⟨rfl, t4, t5, t6, m, t7, t8⟩ := t3
        obtain ⟨S5, z1, z2, z3⟩ := c_advP (sh := sh) hT he hf (by omega) t8
        have f5 := ((f2.trans y3.fD).trans t2.fD).trans z3.fD
        have o5 := opn_sm (by omega) (opn_sm (by omega) (opn_sm (by omega) a5 y3) t2) z3
        simp only [if_neg i10, z1, Option.bind_some, t6]
        show rdL S d T e _ (if w.2.1 = 1 then _ else _)
        rw [t7]
        have q1 : (sI S5 1 4 = 1) = ((tok T e m).1 = 1) := tk_eq (n := 1) z2 (by omega)
        have st5 : sI S5 1 5 = I (tS_ (tok T e m)) := z2.2.2.2.1.2.1
        simp only [q1]
        by_cases ct : (tok T e m).1 = 1
        · have wb := z2.2.2.2.2.2.2.2.1 ct
          have wj : sJ S5 1 6 = J (tW (tok T e m)) := z2.2.2.2.1.2.2.2.1 ct
          have l1 : (lg_cmp (sJ S5 1 6) 1 < 0) = (tW (tok T e m) < 1) := by rw [wj]; exact lgc_lt (c := 1) (by omega) (by omega)
          have l3 : (lg_cmp (sJ S5 1 6) 3 ≤ 0) = (tW (tok T e m) ≤ 3) := by rw [wj]; exact lgc_le (c := 3) (by omega) (by omega)
          simp only [if_pos ct, l1, l3]
          by_cases w1 : tW (tok T e m) < 1
          · simp only [if_pos w1, fail_ok, Option.bind_some, if_neg n01, if_pos (Or.inl w1 : tW (tok T e m) < 1 ∨ 3 < tW (tok T e m))]
            exact ⟨0, _, rfl, f5.trans fail_fD, rfl, rfl, st5⟩
          · by_cases w3 : tW (tok T e m) ≤ 3
            · have wn : ¬ (tW (tok T e m) < 1 ∨ 3 < tW (tok T e m)) := by omega
              have lt : (sJ S5 1 6).toInt32 - 1 = I ((tW (tok T e m) - 1 : Nat) : Int) := by
                rw [wj, J_to32 (by omega), show (1 : Int32) = I 1 from rfl, I_sub]
                congr 1
                omega
              have hM : ∀ i, i < bK x.1.2 → -9 ≤ bM x.1.2 i ∧ bM x.1.2 i ≤ 9 := by rw [xK, a11]; exact hD.1
              have hS : ∀ i, i < bK x.1.2 → bS x.1.2 i ≤ 2 := by rw [xK, a12]; exact hD.2.1
              have z2' : rdC S5 d T e x.1 (tok T e m) (bK x.1.2) := by rw [xK]; exact z2
              have cc := c_close (sh := sh) (f := f) (wo := I w.1) (le := I ((tW (tok T e m) - 1 : Nat) : Int)) hf z2'.2.2.2.2.1 o5 hM hS
              simp only [if_neg w1, if_pos w3, if_neg wn, z2.2.2.1, Option.bind_some, if_pos ck, lt, cc]
              by_cases ce : evenR x.1.2 (bG x.1.2 (bR x.1.2)) x.2.1 = true
              · simp only [if_pos ce, Option.bind_some, if_neg i10]
                have dN := cl_dC (wo := w.1) (le := tW (tok T e m) - 1) z2'.2.2.2.2.1 o5
                have rN := cl_rdN hd (z2'.next (by omega)) dN
                obtain ⟨S6, u1, u2, u3⟩ := c_advN (sh := sh) hT he hf (by omega) rN
                rw [u1, Option.bind_some]
                exact ⟨1, S6, rfl, (f5.trans (cl_fD hd)).trans u3, rfl, u2⟩
              · simp only [if_neg ce, Option.bind_some, if_true, fail_ok, if_neg n01]
                exact ⟨0, _, rfl, f5.trans fail_fD, rfl, rfl, rfl⟩
            · simp only [if_neg w1, if_neg w3, fail_ok, Option.bind_some, if_neg n01, if_pos (by omega : tW (tok T e m) < 1 ∨ 3 < tW (tok T e m))]
              exact ⟨0, _, rfl, f5.trans fail_fD, rfl, rfl, st5⟩
        · simp only [if_neg ct, fail_ok, Option.bind_some, if_neg n01]
          exact ⟨0, _, rfl, f5.trans fail_fD, rfl, rfl, st5⟩
  · rw [if_pos (by omega : 4 ≤ bR D.2)]
    simp only [if_neg c4, Option.bind_some, if_true, fail_ok, if_neg n01]
    exact ⟨0, _, rfl, fail_fD, rfl, rfl, rfl⟩
end P67
