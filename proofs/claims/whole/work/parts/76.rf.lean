section R76
variable {sh : List Sh} {f : Nat} {S : St} {T : Nat → Int} {e q u m : Nat} {D : Dr} {k : TK}
theorem rule_rd {j : Nat} {v : Int32} (hj : j = 6 ∨ j = 8 ∨ j = 9) (hq : q = 95 ∨ 159 ≤ q) (h : rdR S q T e D k u) : rdR (uA S (q + j) (bR D.2) v) q T e D k u := by
  obtain ⟨h1, h2, h3, h4, ⟨⟨b1, b2, b3, b4⟩, h5, h6, h7⟩, h8⟩ := h
  refine ⟨h1, fun i hi => ?_, h3, h4, ⟨⟨b1, b2, fun i hi => ?_, fun r hr => ?_⟩, h5, h6, h7⟩, h8⟩
  · rw [sA_row _ _ _ (by omega)]; exact h2 i hi
  · rw [sA_row _ _ _ (by omega), sA_row _ _ _ (by omega), sA_row _ _ _ (by omega), sA_row _ _ _ (by omega), sA_row _ _ _ (by omega)]; exact b3 i hi
  · obtain ⟨a1, a2, a3, a4⟩ := b4 r hr
    have z : ∀ c, sA (uA S (q + j) (bR D.2) v) c r = sA S c r := fun c => by
      rw [sA_uA]
      by_cases e : c = q + j
      · rw [if_pos e, up1_ne _ _ (by omega)]
      · rw [if_neg e]
    refine ⟨(z _).trans a1, (z _).trans a2, (z _).trans a3, fun k hk => ?_⟩
    rw [sA_row _ _ _ (by omega)]; exact a4 k hk
theorem rule_fR {j r : Nat} {v : Int32} (hj : j ≤ 10) : fR S (uA S (q + j) r v) q := ⟨fun c _ _ a => uA_o (by omega), fun _ _ => rfl, fun _ _ => rfl, rfl⟩
theorem fin_rd {n le : Nat} {wo : Int} (hq : q = 95 ∨ 159 ≤ q) (h : rdR S q T e D k u) (o : opR S q D n) (s6 : sA S (q + 6) (bR D.2) = I n) (s8 : sA S (q + 8) (bR D.2) = I wo) (s9 : sA S (q + 9) (bR D.2) = I le) : rdR (uI S q 1 (I ((bR D.2 + 1 : Nat) : Int))) q T e (D.1, dRule D.2 n wo le) k u := by
  obtain ⟨h1, h2, h3, h4, ⟨⟨b1, b2, b3, b4⟩, h5, h6, h7⟩, h8⟩ := h
  have s1 : ∀ j, sI (uI S q 1 (I ((bR D.2 + 1 : Nat) : Int))) 94 j = sI S 94 j := fun j => congrFun (sI_row _ _ _ (by omega)) j
  obtain ⟨o1, o2, o4⟩ := o
  refine ⟨(s1 10).trans h1, h2, h3, ⟨(s1 13).trans h4.1, fun a => (s1 11).trans (h4.2.1 a), (s1 12).trans h4.2.2.1, fun a => (s1 14).trans (h4.2.2.2.1 a), fun a => (s1 14).trans (h4.2.2.2.2.1 a), h4.2.2.2.2.2.1, fun a => (s1 15).trans (h4.2.2.2.2.2.2 a)⟩, ⟨⟨(sI_ne _ _ _ (by omega)).trans b1, sI_self _ _ _ _, b3, fun r hr => ?_⟩, h5, by show bR D.2 + 1 ≤ 4; omega, h7⟩, h8⟩
  have hr' : r < bR D.2 + 1 := hr
  show sA S (q + 6) r = I ((up1 (bZ D.2) (bR D.2) n r : Nat) : Int) ∧ sA S (q + 8) r = I (up1 (bW D.2) (bR D.2) wo r) ∧ sA S (q + 9) r = I ((up1 (bL D.2) (bR D.2) le r : Nat) : Int) ∧ ∀ k, k < up1 (bZ D.2) (bR D.2) n r → sA S (q + 7) (4 * r + k) = I (bG D.2 r k)
  simp only [up1_if]
  by_cases c : r = bR D.2
  · simp only [if_pos c, c]
    exact ⟨s6, s8, s9, fun k hk => (o4 k hk).2⟩
  · simp only [if_neg c]
    exact b4 r (by omega)
theorem r_meet (hT : ∀ i, -128 ≤ T i ∧ T i ≤ 127) (he : e ≤ 400) (hf : 1000 ≤ f) (hq : q = 95 ∨ 159 ≤ q) (ck : ckX9 sh q = true) (cx : ckX11 sh 106 = true) (hD : dW D) (h : rdR S q T e D k (bK D.2)) (hk : k.1 ≠ 5) : (match pMeet T e D k with
    | .inl a => ∃ S', F_X12_readMeet sh f S 94 = some (.inr (106, S')) ∧ fR S S' q ∧ stp S' a
    | .inr a => ∃ S', F_X12_readMeet sh f S 94 = some (.inl S') ∧ fR S S' q ∧ rdR S' q T e a.1 a.2 (bK a.1.2)) := by
  have p1 := h.2.2.1
  have st : sI S 94 13 = I (tS_ k) := h.2.2.2.1.1
  have r4 := h.2.2.2.2.1.2.2.1
  have k8 := h.2.2.2.2.1.2.1
  have rr := h.2.2.2.2.1.1.2.1
  have stop := fun w : Int32 => r_stop (f := f) (w := w) cx h
  have q4 : (sI S q 1 = 4) = (bR D.2 = 4) := by rw [rr]; exact I_eqN (b := 4) (by omega) (by omega)
  unfold F_X12_readMeet pMeet
  simp only [bnd, p1, Option.bind_some, if_pos ck, q4, st]
  by_cases c4 : bR D.2 = 4
  · simp only [if_pos c4, stop, Option.bind_some, cx, not_true_eq_false, if_false, if_pos (by omega : 4 ≤ bR D.2)]
    exact ⟨_, rfl, thS_fR, thS_stp⟩
  · obtain ⟨S1, g1, g2, g3⟩ := r_advR (sh := sh) hT he hf hq h hk
    have A := r_legs (sh := sh) (f := f) (fr := I (tS_ k)) hT he hf hq ck cx 5 0 f S1 D (adv T e k) (by omega) (by omega) hD.2.2 g2 ⟨by omega, by omega, fun j hj => by omega⟩
    simp only [if_neg c4, g1, Option.bind_some, rr, if_neg (by omega : ¬ 4 ≤ bR D.2)]
    cases hp : pLegs T e 5 D 0 (adv T e k) with
    | inl x =>
      rw [hp] at A
      obtain ⟨S2, a1, a2, a3⟩ := A
      exact ⟨S2, a1, (fR.of9 g3).trans a2, a3⟩
    | inr x =>
      rw [hp] at A
      obtain ⟨S2, a1, a2, a4, a5, a7⟩ := A
      have f2 := (fR.of9 g3).trans a2
      obtain ⟨x1, ⟨x2, xF, xH, xM, xS, xZ, xW, xL⟩, x3, x4, x5, x6⟩ := pLegs_r 5 0 D _ x hp (by omega) (fun j hj => by omega)
      have xK : bK x.1.2 = bK D.2 := congrArg Prod.fst x2
      have xR : bR x.1.2 = bR D.2 := congrArg Prod.snd x2
      have a1' : F_X12_readMeet_L37 sh f 94 f S1 (I (tS_ k)) (I (bR D.2)) 0 = mrest sh f S2 (I (tS_ k)) (I (bR D.2)) (I x.2.1) := a1
      rw [a1']
      obtain ⟨S3, y1, y2, y3⟩ := r_advR (sh := sh) hT he hf hq a4 (by omega)
      have o3 := opR_sm a5 (y3.1 (q + 7) (by omega))
      have cl : (I (bR D.2 : Int)).toNatClampNeg = bR D.2 := I_clN (by omega)
      have cg : ¬ (I (bR D.2 : Int) < 0 ∨ 4 ≤ bR D.2) := by
        rw [show (0 : Int32) = I 0 from rfl, I_lt (by omega) (by omega)]; omega
      have R4 := rule_rd (j := 6) (v := I x.2.1) (by omega) hq y2
      have o4 := opR_sm (S' := uA S3 (q + 6) (bR x.1.2) (I x.2.1)) o3 (uA_o (by omega))
      rw [xR] at R4 o4
      have s46 : sA (uA S3 (q + 6) (bR D.2) (I x.2.1)) (q + 6) (bR D.2) = I x.2.1 := by rw [sA_uA, if_pos rfl, up1_self]
      have f4 : fR S (uA S3 (q + 6) (bR D.2) (I x.2.1)) q := (f2.trans (fR.of9 y3)).trans (rule_fR (by omega))
      have p3 := y2.2.2.1
      have p4 := R4.2.2.1
      have N := r_int (sh := sh) (most := 99) (zok := false) hT he hf hq cx (by omega) R4
      unfold mrest
      simp only [y1, Option.bind_some, p3, if_pos ck, cl, if_neg cg, bnd, p4]
      generalize hS4 : uA S3 (q + 6) (bR D.2) (I x.2.1) = S4 at R4 o4 s46 f4 p4 N
      simp only [bindP]
      cases hi : pInt T e 99 false (adv T e x.2.2) with
      | inl w =>
        rw [hi] at N
        obtain ⟨S5, n1, n2, n3⟩ := N
        have n1' : F_X12_readInt sh f S4 94 99 1 = some (.inr (106, S5)) := n1
        rw [n1']
        exact ⟨S5, rfl, f4.trans n2, n3⟩
      | inr w =>
        rw [hi] at N
        obtain ⟨S5, n1, n2, n3⟩ := N
        have n1' : F_X12_readInt sh f S4 94 99 1 = some (.inl (I w.1, S5)) := n1
        have R6 := rule_rd (j := 8) (v := I w.1) (by omega) hq n3
        rw [xR] at R6
        have o6 := opR_sm (S' := uA S5 (q + 8) (bR D.2) (I w.1)) (opR_sm o4 (n2.1 (q + 7) (by omega))) (uA_o (by omega))
        have s66 : sA (uA S5 (q + 8) (bR D.2) (I w.1)) (q + 6) (bR D.2) = I x.2.1 := by rw [sA_row _ _ _ (by omega), n2.2.2.2.2.1]; exact s46
        have s68 : sA (uA S5 (q + 8) (bR D.2) (I w.1)) (q + 8) (bR D.2) = I w.1 := by rw [sA_uA, if_pos rfl, up1_self]
        have f6 : fR S (uA S5 (q + 8) (bR D.2) (I w.1)) q := (f4.trans (fR.of9 n2)).trans (rule_fR (by omega))
        have p6 := R6.2.2.1
        simp only [n1', Option.bind_some, thr, if_neg cg]
        generalize hS6 : uA S5 (q + 8) (bR D.2) (I w.1) = S6 at R6 o6 s66 s68 f6 p6
        have s := (r_sort R6).1
        have stop6 := fun w : Int32 => r_stop (f := f) (w := w) cx R6
        simp only [s, r_isWord hf (by omega : 5 < 8) R6, r_isWord hf (by omega : 6 < 8) R6, r_isWord hf (by omega : 7 < 8) R6, show wdOf 5 = 1 from rfl, show wdOf 6 = 2 from rfl, show wdOf 7 = 3 from rfl, p6, Option.bind_some, if_pos ck]
        by_cases ct : w.2.1 = 1
        · simp only [if_pos ct, ct, true_and]
          have last : ∀ le : Int32, (le = -1 ∧ (tW w.2 < 1 ∨ 3 < tW w.2) ∨ le = I ((tW w.2 - 1 : Nat) : Int) ∧ ¬ (tW w.2 < 1 ∨ 3 < tW w.2)) → (match (if tW w.2 < 1 ∨ 3 < tW w.2 then .inl (4, tS_ w.2) else if evenR x.1.2 (bG x.1.2 (bR x.1.2)) x.2.1 = true then .inr ((x.1.1, dRule x.1.2 x.2.1 w.1 (tW w.2 - 1)), adv T e w.2) else .inl (5, tS_ k) : PR (Dr × TK)) with
              | .inl a => ∃ S', F_X12_readMeet_L234 sh f 94 S6 (I (tS_ k)) (I (bR D.2)) (q + 9) (I (bR D.2)) le = some (.inr (106, S')) ∧ fR S S' q ∧ stp S' a
              | .inr a => ∃ S', F_X12_readMeet_L234 sh f 94 S6 (I (tS_ k)) (I (bR D.2)) (q + 9) (I (bR D.2)) le = some (.inl S') ∧ fR S S' q ∧ rdR S' q T e a.1 a.2 (bK a.1.2)) := by
            intro le hle
            have R7 := rule_rd (j := 9) (v := le) (by omega) hq R6
            rw [xR] at R7
            have o7 := opR_sm (S' := uA S6 (q + 9) (bR D.2) le) o6 (uA_o (by omega))
            have s76 : sA (uA S6 (q + 9) (bR D.2) le) (q + 6) (bR D.2) = I x.2.1 := by rw [sA_row _ _ _ (by omega)]; exact s66
            have s78 : sA (uA S6 (q + 9) (bR D.2) le) (q + 8) (bR D.2) = I w.1 := by rw [sA_row _ _ _ (by omega)]; exact s68
            have s79 : sA (uA S6 (q + 9) (bR D.2) le) (q + 9) (bR D.2) = le := by rw [sA_uA, if_pos rfl, up1_self]
            have f7 : fR S (uA S6 (q + 9) (bR D.2) le) q := f6.trans (rule_fR (by omega))
            have p7 := R7.2.2.1
            unfold F_X12_readMeet_L234
            simp only [cl, if_neg cg, bnd, p7, Option.bind_some, if_pos ck, s79]
            generalize uA S6 (q + 9) (bR D.2) le = S7 at R7 o7 s76 s78 s79 f7 p7
            have stop7 := fun w : Int32 => r_stop (f := f) (w := w) cx R7
            rcases hle with ⟨rfl, hl⟩ | ⟨rfl, hl⟩
            · simp only [if_true, stop7, Option.bind_some, cx, not_true_eq_false, if_false, if_pos hl]
              exact ⟨_, rfl, f7.trans thS_fR, thS_stp⟩
            · have nm : ¬ I ((tW w.2 - 1 : Nat) : Int) = -1 := by rw [show (-1 : Int32) = I (-1) from rfl, I_eq (by omega) (by omega)]; omega
              have V := R7.2.2.2.2.1.1
              have ev := r_even (sh := sh) (f := f) (S := S7) (q := q) (u := bK D.2) (r := bR D.2) (n := x.2.1) (B := x.1.2) (g := bG x.1.2 (bR D.2)) hf ck p7 (by omega) x5 s76 (fun j hj => by
                have := o7.2.2 j hj
                rw [xR, xK] at this
                exact this) k8 (fun i hi => ⟨by rw [xM]; exact (hD.1 i hi).1, by rw [xM]; exact (hD.1 i hi).2, (V.2.2.1 i hi).2.2.1⟩) (fun i hi => ⟨by rw [xS]; exact hD.2.1 i hi, (V.2.2.1 i hi).2.2.2.1⟩)
              simp only [if_neg nm, if_neg hl, ev, Option.bind_some, xR]
              by_cases ce : evenR x.1.2 (bG x.1.2 (bR D.2)) x.2.1 = true
              · have r7 : sI S7 q 1 + 1 = I ((bR D.2 + 1 : Nat) : Int) := by
                  rw [show sI S7 q 1 = I (bR D.2) from (by rw [← xR]; exact V.2.1), show (1 : Int32) = I 1 from rfl, I_add]
                  rfl
                have fi := fin_rd (n := x.2.1) (le := tW w.2 - 1) (wo := w.1) hq R7 o7 (by rw [xR]; exact s76) (by rw [xR]; exact s78) (by rw [xR]; exact s79)
                rw [xR] at fi
                obtain ⟨S9, z1, z2, z3⟩ := r_advR (sh := sh) hT he hf hq fi (by omega)
                simp only [if_pos ce, if_neg i10, r7, z1, Option.bind_some]
                refine ⟨S9, rfl, (f7.trans ⟨fun c _ _ a => uI_o (by omega), fun j _ => congrFun (sI_row _ _ _ (by omega)) j, fun _ _ => rfl, rfl⟩).trans (fR.of9 z3), ?_⟩
                show rdR S9 q T e (x.1.1, dRule x.1.2 x.2.1 w.1 (tW w.2 - 1)) (adv T e w.2) (bK x.1.2)
                rw [xK]
                exact z2
              · simp only [if_neg ce, if_true, r_stopAt, Option.bind_some, cx, not_true_eq_false, if_false]
                exact ⟨_, rfl, f7.trans thS_fR, thS_stp⟩
          by_cases w1 : tW w.2 = 1
          · simp only [w1, if_true, if_neg i10]
            have := last 0 (Or.inr ⟨by rw [w1]; rfl, by omega⟩)
            rw [w1] at this
            exact this
          · by_cases w2 : tW w.2 = 2
            · simp only [w2, if_true, if_neg i10, show ¬ (2 : Nat) = 1 by omega, if_false]
              have := last 1 (Or.inr ⟨by rw [w2]; rfl, by omega⟩)
              rw [w2] at this
              exact this
            · by_cases w3 : tW w.2 = 3
              · simp only [w3, if_true, if_neg i10, show ¬ (3 : Nat) = 1 by omega, show ¬ (3 : Nat) = 2 by omega, if_false]
                have := last 2 (Or.inr ⟨by rw [w3]; rfl, by omega⟩)
                rw [w3] at this
                exact this
              · simp only [w1, w2, w3, if_true, if_false]
                exact last (-1) (Or.inl ⟨rfl, by omega⟩)
        · simp only [if_neg ct, stop6, Option.bind_some, cx, not_true_eq_false, if_false]
          exact ⟨_, rfl, f6.trans thS_fR, thS_stp⟩
end R76
