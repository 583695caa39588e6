section R72
variable {sh : List Sh} {f : Nat} {S : St} {T : Nat → Int} {e q u m : Nat} {D : Dr} {k : TK}
def kR (S : St) (q i : Nat) (so he ma fo se : Int32) : St := uA (uA (uA (uA (uA S (q + 5) i so) (q + 3) i he) (q + 4) i ma) (q + 2) i fo) (q + 10) i se
theorem kR_bk {foe sort heavy : Nat} {mark : Int} {B : Bk} {se : Int32} (hs : se = if foe < u then I 1 else I 0) (h : bkV S q B u) : bkV (kR S q u (I sort) (I heavy) (I mark) (I foe) se) q (dKind B u foe sort heavy mark) (u + 1) := by
  obtain ⟨h1, h2, h3, h4⟩ := h
  have r2 : sA (kR S q u (I sort) (I heavy) (I mark) (I foe) se) (q + 2) = up1 (sA S (q + 2)) u (I foe) := by
    unfold kR
    rw [sA_row _ _ _ (by omega), sA_uA, if_pos rfl, sA_row _ _ _ (by omega), sA_row _ _ _ (by omega), sA_row _ _ _ (by omega)]
  have r5 : sA (kR S q u (I sort) (I heavy) (I mark) (I foe) se) (q + 5) = up1 (sA S (q + 5)) u (I sort) := by
    unfold kR
    rw [sA_row _ _ _ (by omega), sA_row _ _ _ (by omega), sA_row _ _ _ (by omega), sA_row _ _ _ (by omega), sA_uA, if_pos rfl]
  have r3 : sA (kR S q u (I sort) (I heavy) (I mark) (I foe) se) (q + 3) = up1 (sA S (q + 3)) u (I heavy) := by
    unfold kR
    rw [sA_row _ _ _ (by omega), sA_row _ _ _ (by omega), sA_row _ _ _ (by omega), sA_uA, if_pos rfl, sA_row _ _ _ (by omega)]
  have r4 : sA (kR S q u (I sort) (I heavy) (I mark) (I foe) se) (q + 4) = up1 (sA S (q + 4)) u (I mark) := by
    unfold kR
    rw [sA_row _ _ _ (by omega), sA_row _ _ _ (by omega), sA_uA, if_pos rfl, sA_row _ _ _ (by omega), sA_row _ _ _ (by omega)]
  have rS : sA (kR S q u (I sort) (I heavy) (I mark) (I foe) se) (q + 10) = up1 (sA S (q + 10)) u se := by
    unfold kR
    rw [sA_uA, if_pos rfl, sA_row _ _ _ (by omega), sA_row _ _ _ (by omega), sA_row _ _ _ (by omega), sA_row _ _ _ (by omega)]
  have rr : ∀ j, 6 ≤ j → j ≤ 9 → sA (kR S q u (I sort) (I heavy) (I mark) (I foe) se) (q + j) = sA S (q + j) := by
    intro j hj hj'
    unfold kR
    rw [sA_row _ _ _ (by omega), sA_row _ _ _ (by omega), sA_row _ _ _ (by omega), sA_row _ _ _ (by omega), sA_row _ _ _ (by omega)]
  refine ⟨h1, h2, fun i hi => ?_, fun r hr => ?_⟩
  · rw [r2, r3, r4, r5, rS]
    show up1 (sA S (q + 2)) u (I foe) i = I ((up1 (bF B) u foe i : Nat) : Int) ∧ up1 (sA S (q + 3)) u (I heavy) i = I ((up1 (bH B) u heavy i : Nat) : Int) ∧ up1 (sA S (q + 4)) u (I mark) i = I (up1 (bM B) u mark i) ∧ up1 (sA S (q + 5)) u (I sort) i = I ((up1 (bS B) u sort i : Nat) : Int) ∧ up1 (sA S (q + 10)) u se i = (if up1 (bF B) u foe i < i then I 1 else I 0)
    simp only [up1_if]
    by_cases c : i = u
    · subst c
      simp only [if_true]
      exact ⟨trivial, trivial, trivial, trivial, hs⟩
    · simp only [if_neg c]; exact h3 i (by omega)
  · rw [rr 6 (by omega) (by omega), rr 7 (by omega) (by omega), rr 8 (by omega) (by omega), rr 9 (by omega) (by omega)]
    exact h4 r hr
theorem kR_fR {i : Nat} {a b c d g : Int32} : fR S (kR S q i a b c d g) q := ⟨fun x _ _ h => (by repeat' (first | exact Sm.rfl | (refine Sm.uI ?_ (by omega)) | (refine Sm.uA ?_ (by omega)) | (refine Sm.uJ ?_ (by omega)) | (refine Sm.uL ?_ (by omega)) | (refine Sm.uR ?_ (by omega)))), fun _ _ => rfl, fun _ _ => rfl, rfl⟩
theorem kR_rd {foe sort heavy : Nat} {mark : Int} {se : Int32} (hq : q = 95 ∨ 159 ≤ q) (hs : se = if foe < u then I 1 else I 0) (h : rdR S q T e D k u) : rdR (kR S q u (I sort) (I heavy) (I mark) (I foe) se) q T e (D.1, dKind D.2 u foe sort heavy mark) k (u + 1) := by
  obtain ⟨h1, h2, h3, h4, h5, h6⟩ := h
  refine ⟨h1, fun j hj => ?_, h3, h4, ⟨kR_bk hs h5.1, h5.2.1, h5.2.2.1, h5.2.2.2⟩, h6⟩
  have : sA (kR S q u (I sort) (I heavy) (I mark) (I foe) se) 107 = sA S 107 := by
    unfold kR
    rw [sA_row _ _ _ (by omega), sA_row _ _ _ (by omega), sA_row _ _ _ (by omega), sA_row _ _ _ (by omega), sA_row _ _ _ (by omega)]
  rw [this]
  exact h2 j hj
theorem r_step {n i a b : Nat} {p1 h : Int32} {m : Int} (ck : ckX9 sh q = true) (p : sR S 94 6 = some q) (hi : i < 8) (ha : a < 8) (hb : b < 8) (hib : i ≤ b) : F_X12_readKinds_L85 sh f 94 p1 (n + 1) S (I a) (I b) h (I m) (I i) = F_X12_readKinds_L85 sh f 94 p1 n (kR S q i p1 h (I (if i = a then m else -m)) (I ((a : Int) + b - i)) (if i ≤ a then I 0 else I 1)) (I a) (I b) h (I m) (I ((i + 1 : Nat) : Int)) := by
  have c1 : ¬ I (b : Int) < I i := by rw [I_ltN (by omega) (by omega)]; omega
  have cl : (I (i : Int)).toNatClampNeg = i := I_clN (by omega)
  have c2 : ¬ (I (i : Int) < 0 ∨ 8 ≤ i) := by
    rw [show (0 : Int32) = I 0 from rfl, I_lt (by omega) (by omega)]; omega
  have qa : (I (i : Int) = I a) = (i = a) := I_eqN (by omega) (by omega)
  have ql : (I (i : Int) ≤ I a) = (i ≤ a) := I_leN (by omega) (by omega)
  have p2 : sR (uA S (q + 5) i p1) 94 6 = some q := p
  have p3 : sR (uA (uA S (q + 5) i p1) (q + 3) i h) 94 6 = some q := p
  have p4 : ∀ x, sR (uA (uA (uA S (q + 5) i p1) (q + 3) i h) (q + 4) i x) 94 6 = some q := fun _ => p
  have p5 : ∀ x y, sR (uA (uA (uA (uA S (q + 5) i p1) (q + 3) i h) (q + 4) i x) (q + 2) i y) 94 6 = some q := fun _ _ => p
  have nx : I (i : Int) + 1 = I ((i + 1 : Nat) : Int) := by rw [show (1 : Int32) = I 1 from rfl, I_add]; rfl
  have fo : I (a : Int) + I b - I i = I ((a : Int) + b - i) := by rw [I_add, I_sub]
  have v0 : vp_nar .boolean 0 = I 0 := rfl
  have v1 : vp_nar .boolean 1 = I 1 := rfl
  rw [F_X12_readKinds_L85, if_neg c1]
  simp only [p, Option.bind_some, if_pos ck, cl, if_neg c2, bnd, p2, p3, qa, F_X12_readKinds_L137, p4, p5, ql, nx, fo, v0, v1]
  by_cases d1 : i = a
  · simp only [if_pos d1, if_pos (by omega : i ≤ a)]
    rfl
  · by_cases d2 : i ≤ a
    · simp only [if_neg d1, if_pos d2, I_neg]
      rfl
    · simp only [if_neg d1, if_neg d2, I_neg]
      rfl
theorem r_kend {n i b : Nat} {p1 h a m : Int32} (hb : b < 8) (hi : i ≤ 8) (hib : b < i) : F_X12_readKinds_L85 sh f 94 p1 (n + 1) S a (I b) h m (I i) = some (.inl S) := by
  rw [F_X12_readKinds_L85, if_pos (by rw [I_ltN (by omega) (by omega)]; exact hib)]
theorem r_own (hT : ∀ i, -128 ≤ T i ∧ T i ≤ 127) (he : e ≤ 400) (hf : 1000 ≤ f) (hq : q = 95 ∨ 159 ≤ q) (ck : ckX9 sh q = true) (cx : ckX11 sh 106 = true) (h : rdR S q T e D k (bK D.2)) (hk : k.1 ≠ 5) : (match pOwn T e D k with
    | .inl a => ∃ S', F_X12_readKinds sh f S 94 0 = some (.inr (106, S')) ∧ fR S S' q ∧ stp S' a
    | .inr a => ∃ S', F_X12_readKinds sh f S 94 0 = some (.inl S') ∧ fR S S' q ∧ rdR S' q T e a.1 a.2 (bK a.1.2)) := by
  obtain ⟨S1, g1, g2, g3⟩ := r_advR (sh := sh) hT he hf hq h hk
  have A := r_new (sh := sh) hT he hf hq ck cx g2
  unfold F_X12_readKinds pOwn
  rw [g1, Option.bind_some]
  cases hp : pNew T e D (adv T e k) with
  | inl x =>
    rw [hp] at A
    obtain ⟨S2, a1, a2, a3⟩ := A
    rw [a1]
    exact ⟨S2, rfl, (fR.of9 g3).trans a2, a3⟩
  | inr x =>
    rw [hp] at A
    obtain ⟨S2, a1, a2, a4⟩ := A
    obtain ⟨x1, x2, x3⟩ := pNew_r hp
    have xK : bK x.1.2 = bK D.2 + 1 := by rw [x1]; rfl
    have s := (r_sort a4).2.1
    have stop := fun w : Int32 => r_stop (f := f) (w := w) cx a4
    have f2 := (fR.of9 g3).trans a2
    simp only [a1, Option.bind_some, thr, bnd, if_true, F_X12_readKinds_L21, s]
    unfold pHeavy
    simp only [bindP]
    by_cases c : x.2.1 = 2
    · have v : sI S2 94 15 = I (tV x.2) := a4.2.2.2.1.2.2.2.2.2.2 c
      have b := a4.2.2.2.2.2.2.2.2.1 c
      have qi : F_X12_in sh f S2 (I (tV x.2)) 1 99 = some (if tV x.2 < 1 ∨ 99 < tV x.2 then 0 else 1) := by
        unfold F_X12_in
        have q1 : (I (tV x.2 : Int) < 1) = (tV x.2 < 1) := I_ltN (b := 1) (by omega) (by omega)
        have q2 : ((99 : Int32) < I (tV x.2 : Int)) = (99 < tV x.2) := I_ltN (a := 99) (by omega) (by omega)
        simp only [q1, q2]
        by_cases d1 : tV x.2 < 1
        · rw [if_pos d1, if_pos (Or.inl d1)]
        · by_cases d2 : 99 < tV x.2
          · rw [if_neg d1, if_pos d2, if_pos (Or.inr d2)]
          · rw [if_neg d1, if_neg d2, if_neg (by omega)]
      simp only [if_pos c, v, qi, Option.bind_some]
      by_cases d : tV x.2 < 1 ∨ 99 < tV x.2
      · simp only [if_pos d, if_true, stop, Option.bind_some, cx, not_true_eq_false, if_false]
        exact ⟨_, rfl, f2.trans thS_fR, thS_stp⟩
      · obtain ⟨S3, y1, y2, y3⟩ := r_advR (sh := sh) hT he hf hq a4 (by omega)
        have st : F_X12_readKinds_L85 sh f 94 0 f S3 (I (bK D.2)) (I (bK D.2)) (I (tV x.2)) 0 (I (bK D.2)) = some (.inl (kR S3 q (bK D.2) (I ((0 : Nat) : Int)) (I (tV x.2)) (I 0) (I (bK D.2)) (I 0))) := by
          have st1 := r_step (sh := sh) (f := f) (n := f - 1) (i := bK D.2) (a := bK D.2) (b := bK D.2) (p1 := 0) (h := I (tV x.2)) (m := 0) (S := S3) ck y2.2.2.1 (by omega) (by omega) (by omega) (by omega)
          rw [if_pos rfl, if_pos (Nat.le_refl _), show ((bK D.2 : Nat) : Int) + (bK D.2 : Nat) - (bK D.2 : Nat) = (bK D.2 : Nat) by omega] at st1
          rw [show f - 1 + 1 = f by omega, show f - 1 = (f - 2) + 1 by omega, r_kend (n := f - 2) (i := bK D.2 + 1) (b := bK D.2) (by omega) (by omega) (by omega)] at st1
          exact st1
        simp only [if_neg d, if_neg i10, y1, Option.bind_some, st]
        have R := kR_rd (foe := bK D.2) (sort := 0) (heavy := tV x.2) (mark := 0) (se := I 0) hq (by rw [if_neg (by omega)]) y2
        refine ⟨_, rfl, (f2.trans (fR.of9 y3)).trans kR_fR, ?_⟩
        show rdR _ q T e (x.1.1, dKind x.1.2 (bK x.1.2 - 1) (bK x.1.2 - 1) 0 (tV x.2) 0) (adv T e x.2) (bK x.1.2)
        rw [xK]
        exact R
    · simp only [if_neg c, stop, Option.bind_some, cx, not_true_eq_false, if_false]
      exact ⟨_, rfl, f2.trans thS_fR, thS_stp⟩
end R72
