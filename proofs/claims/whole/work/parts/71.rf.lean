section R71
variable {sh : List Sh} {f : Nat} {S : St} {T : Nat → Int} {e q u m : Nat} {D : Dr} {k : TK}
theorem r_new (hT : ∀ i, -128 ≤ T i ∧ T i ≤ 127) (he : e ≤ 400) (hf : 1000 ≤ f) (hq : q = 95 ∨ 159 ≤ q) (ck : ckX9 sh q = true) (cx : ckX11 sh 106 = true) (h : rdR S q T e D k u) : (match pNew T e D k with
    | .inl a => ∃ S', F_X12_readNew sh f S 94 = some (.inr (106, S')) ∧ fR S S' q ∧ stp S' a
    | .inr a => ∃ S', F_X12_readNew sh f S 94 = some (.inl (I (bK D.2), S')) ∧ fR S S' q ∧ rdR S' q T e a.1 a.2 u) := by
  have hn := r_isName (sh := sh) hf h
  have stop := fun w : Int32 => r_stop (f := f) (w := w) cx h
  obtain ⟨h1, h2, h3, h4, h5, h6⟩ := h
  unfold F_X12_readNew pNew
  rw [hn, Option.bind_some]
  by_cases c : nmB k = true
  · have c1 := nm1 c
    have wb := h6.2.2.1 c1
    have w : sJ S 94 16 = J (tW k) := h4.2.2.2.2.2.1 c1
    have fk := r_find (sh := sh) (f := f) wb hf h5
    have k8 := h5.2.1
    rw [if_pos c, if_pos c, if_neg i10, h3, Option.bind_some, if_pos ck, w, fk, Option.bind_some]
    cases hfd : findN D.1 (tW k) (bK D.2) 0 with
    | some j =>
      have := (find_lt _ _ _ hfd).2
      have cj : ¬ I (j : Int) = -1 := by rw [show (-1 : Int32) = I (-1) from rfl, I_eq (by omega) (by omega)]; omega
      simp only [if_neg cj, stop, Option.bind_some, cx, not_true_eq_false, if_false, Option.isSome_some, if_true]
      exact ⟨_, rfl, thS_fR, thS_stp⟩
    | none =>
      have q8 : (sI S q 0 = 8) = (bK D.2 = 8) := by rw [h5.1.1]; exact I_eqN (b := 8) (by omega) (by omega)
      simp only [if_true, Option.bind_some, if_pos ck, Option.isSome_none, Bool.false_eq_true, if_false, q8]
      by_cases c8 : bK D.2 = 8
      · simp only [if_pos c8, stop, Option.bind_some, cx, not_true_eq_false, if_false, if_pos (by omega : 8 ≤ bK D.2)]
        exact ⟨_, rfl, thS_fR, thS_stp⟩
      · have cl : (sI S q 0).toNatClampNeg = bK D.2 := by rw [h5.1.1]; exact I_clN (by omega)
        have cg : ¬ (sI S q 0 < 0 ∨ 8 ≤ bK D.2) := by
          rw [h5.1.1, show (0 : Int32) = I 0 from rfl, I_lt (by omega) (by omega)]; omega
        have p' : sR (uL S (q + 1) (bK D.2) (J (tW k))) 94 6 = some q := h3
        have e9 : sI (uL S (q + 1) (bK D.2) (J (tW k))) q 0 + 1 = I ((bK D.2 + 1 : Nat) : Int) := by
          rw [show sI (uL S (q + 1) (bK D.2) (J (tW k))) q 0 = I (bK D.2) from h5.1.1, show (1 : Int32) = I 1 from rfl, I_add]
          rfl
        simp only [if_neg c8, cl, if_neg cg, bnd, p', Option.bind_some, if_pos ck, e9, if_neg (by omega : ¬ 8 ≤ bK D.2)]
        have s1 : ∀ j, sI (uI (uL S (q + 1) (bK D.2) (J (tW k))) q 0 (I ((bK D.2 + 1 : Nat) : Int))) 94 j = sI S 94 j := fun j => congrFun (sI_row _ _ _ (by omega)) j
        have fU : fR S (uI (uL S (q + 1) (bK D.2) (J (tW k))) q 0 (I ((bK D.2 + 1 : Nat) : Int))) q := ⟨fun c a b d => (by repeat' (first | exact Sm.rfl | (refine Sm.uI ?_ (by omega)) | (refine Sm.uA ?_ (by omega)) | (refine Sm.uJ ?_ (by omega)) | (refine Sm.uL ?_ (by omega)) | (refine Sm.uR ?_ (by omega)))), fun j _ => s1 j, fun _ _ => rfl, rfl⟩
        have rU : rdR (uI (uL S (q + 1) (bK D.2) (J (tW k))) q 0 (I ((bK D.2 + 1 : Nat) : Int))) q T e (addK D (tW k)) k u := by
          refine ⟨(s1 10).trans h1, h2, h3, ⟨(s1 13).trans h4.1, fun a => (s1 11).trans (h4.2.1 a), (s1 12).trans h4.2.2.1, fun a => (s1 14).trans (h4.2.2.2.1 a), fun a => (s1 14).trans (h4.2.2.2.2.1 a), h4.2.2.2.2.2.1, fun a => (s1 15).trans (h4.2.2.2.2.2.2 a)⟩, ⟨⟨sI_self _ _ _ _, ?_, h5.1.2.2.1, h5.1.2.2.2⟩, ?_, h5.2.2.1, ?_⟩, h6⟩
          · exact (sI_ne _ _ _ (by omega)).trans h5.1.2.1
          · show bK D.2 + 1 ≤ 8; omega
          · intro i hi
            show up2 S.2.1 (q + 1) (bK D.2) (J (tW k)) (q + 1) i = J ((up1 D.1 (bK D.2) (tW k) i : Nat) : Int) ∧ up1 D.1 (bK D.2) (tW k) i < _
            rw [up1_if]
            by_cases ci : i = bK D.2
            · rw [if_pos ci, ci, up2_self]; exact ⟨rfl, wb⟩
            · rw [if_neg ci, up2_ne _ _ _ ci]
              have : i < bK D.2 + 1 := hi
              exact h5.2.2.2 i (by omega)
        obtain ⟨S', g1, g2, g3⟩ := r_advR (sh := sh) hT he hf hq rU (by omega)
        have v : sI S' q 0 - 1 = I (bK D.2) := by
          rw [show sI S' q 0 = I ((bK D.2 + 1 : Nat) : Int) from g2.2.2.2.2.1.1.1, show (1 : Int32) = I 1 from rfl, I_sub]
          congr 1
          omega
        simp only [g1, Option.bind_some, g2.2.2.1, if_pos ck, v]
        exact ⟨S', rfl, fU.trans (fR.of9 g3), g2⟩
  · rw [if_neg c, if_neg c, if_pos rfl, stop, Option.bind_some, if_neg (by rw [cx]; decide)]
    exact ⟨_, rfl, thS_fR, thS_stp⟩
theorem r_intA {most : Nat} {zok neg : Bool} {fr : Nat} (hT : ∀ i, -128 ≤ T i ∧ T i ≤ 127) (he : e ≤ 400) (hf : 1000 ≤ f) (hq : q = 95 ∨ 159 ≤ q) (cx : ckX11 sh 106 = true) (hm : most ≤ 99) (h : rdR S q T e D k u) : (match pIntA T e most zok fr neg k with
    | .inl a => ∃ S', F_X12_readInt_L22 sh f 94 (I most) (if zok = true then 0 else 1) S (I fr) (if neg = true then 1 else 0) = some (.inr (106, S')) ∧ fR S S' q ∧ stp S' a
    | .inr v => ∃ S', F_X12_readInt_L22 sh f 94 (I most) (if zok = true then 0 else 1) S (I fr) (if neg = true then 1 else 0) = some (.inl (I v.1, S')) ∧ C9 S S' ∧ rdR S' q T e D v.2 u) := by
  have s := (r_sort h).2.1
  have stop := fun w : Int32 => r_stop (f := f) (w := w) cx h
  unfold F_X12_readInt_L22 pIntA
  simp only [s]
  by_cases c : k.1 = 2
  · have v : sI S 94 15 = I (tV k) := h.2.2.2.1.2.2.2.2.2.2 c
    have b := h.2.2.2.2.2.2.2.2.1 c
    have q1 : (I (most : Int) < I (tV k : Int)) = (most < tV k) := I_ltN (by omega) (by omega)
    have q2 : (I (tV k : Int) = 0) = (tV k = 0) := I_eqN (b := 0) (by omega) (by omega)
    obtain ⟨S', g1, g2, g3⟩ := r_advR (sh := sh) hT he hf hq h (by omega)
    simp only [if_pos c, v, q1, q2, bnd, g1, Option.bind_some]
    by_cases c1 : most < tV k
    · simp only [if_pos c1, r_stopAt, Option.bind_some, cx, not_true_eq_false, if_false, if_pos (Or.inl c1 : most < tV k ∨ (tV k = 0 ∧ zok = false))]
      exact ⟨_, rfl, thS_fR, thS_stp⟩
    · have done : ∀ x : Int32, x = I (if neg = true then -(tV k : Int) else (tV k : Int)) → ∃ S'', (some (.inl (x, S')) : Option ((Int32 × St) ⊕ (Nat × St))) = some (.inl (I (if neg = true then -(tV k : Int) else (tV k : Int)), S'')) ∧ C9 S S'' ∧ rdR S'' q T e D (adv T e k) u := fun x hx => ⟨S', by rw [hx], g3, g2⟩
      cases zok with
      | true =>
        have c3 : ¬ (most < tV k ∨ (tV k = 0 ∧ true = false)) := by
          rintro (a | a)
          · exact c1 a
          · cases a.2
        rw [if_neg c3]
        cases neg with
        | false =>
          simp only [if_neg c1, if_true, Bool.false_eq_true, if_false]
          exact done _ rfl
        | true =>
          simp only [if_neg c1, if_true, if_neg i10]
          exact done _ (I_neg _)
      | false =>
        by_cases c2 : tV k = 0
        · simp only [if_neg c1, Bool.false_eq_true, if_false, if_neg i10, if_pos c2, r_stopAt, Option.bind_some, cx, not_true_eq_false, and_true, if_pos (Or.inr c2 : most < tV k ∨ tV k = 0)]
          exact ⟨_, rfl, thS_fR, thS_stp⟩
        · have c3 : ¬ (most < tV k ∨ (tV k = 0 ∧ false = false)) := by
            rintro (a | a)
            · exact c1 a
            · exact c2 a.1
          rw [if_neg c3]
          cases neg with
          | false =>
            simp only [if_neg c1, Bool.false_eq_true, if_false, if_neg i10, if_neg c2, if_true]
            exact done _ rfl
          | true =>
            simp only [if_neg c1, Bool.false_eq_true, if_false, if_neg i10, if_neg c2, if_true]
            exact done _ (I_neg _)
  · simp only [if_neg c, stop, Option.bind_some, cx, not_true_eq_false, if_false]
    exact ⟨_, rfl, thS_fR, thS_stp⟩
theorem r_int {most : Nat} {zok : Bool} (hT : ∀ i, -128 ≤ T i ∧ T i ≤ 127) (he : e ≤ 400) (hf : 1000 ≤ f) (hq : q = 95 ∨ 159 ≤ q) (cx : ckX11 sh 106 = true) (hm : most ≤ 99) (h : rdR S q T e D k u) : (match pInt T e most zok k with
    | .inl a => ∃ S', F_X12_readInt sh f S 94 (I most) (if zok = true then 0 else 1) = some (.inr (106, S')) ∧ fR S S' q ∧ stp S' a
    | .inr v => ∃ S', F_X12_readInt sh f S 94 (I most) (if zok = true then 0 else 1) = some (.inl (I v.1, S')) ∧ C9 S S' ∧ rdR S' q T e D v.2 u) := by
  have p : sI S 94 13 = I (tS_ k) := h.2.2.2.1.1
  unfold F_X12_readInt pInt
  simp only [bnd, p, r_is (v := 45) (n := 4) (Or.inr ⟨rfl, rfl⟩) h, Option.bind_some]
  by_cases c : k.1 = 4
  · obtain ⟨S', g1, g2, g3⟩ := r_advR (sh := sh) hT he hf hq h (by omega)
    rw [if_pos c, if_pos c, if_neg i10, g1, Option.bind_some]
    have A := r_intA (sh := sh) (most := most) (zok := zok) (neg := true) (fr := tS_ k) hT he hf hq cx hm g2
    cases hp : pIntA T e most zok (tS_ k) true (adv T e k) with
    | inl a =>
      rw [hp] at A
      obtain ⟨S'', a1, a2, a3⟩ := A
      exact ⟨S'', a1, (fR.of9 g3).trans a2, a3⟩
    | inr a =>
      rw [hp] at A
      obtain ⟨S'', a1, a2, a3⟩ := A
      exact ⟨S'', a1, g3.trans a2, a3⟩
  · rw [if_neg c, if_neg c, if_pos rfl]
    exact r_intA (sh := sh) (most := most) (zok := zok) (neg := false) (fr := tS_ k) hT he hf hq cx hm h
end R71
