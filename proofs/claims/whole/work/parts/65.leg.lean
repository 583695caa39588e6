section P65
variable {sh : List Sh} {f : Nat} {S : St} {T : Nat → Int} {e d u m : Nat} {D : Dr} {k : TK}
def fC (S S' : St) : Prop := (∀ c, c ≠ 1 → Sm S S' c) ∧ sI S' 1 1 = sI S 1 1 ∧ sR S' = sR S
theorem fC.fD {S S' : St} (h : fC S S') : fD S S' d := ⟨fun c a _ => h.1 c a, h.2.1, h.2.2⟩
theorem fC.trans {S S' S'' : St} (h : fC S S') (g : fC S' S'') : fC S S'' := ⟨fun c a => (h.1 c a).trans (g.1 c a), g.2.1.trans h.2.1, g.2.2.trans h.2.2⟩
theorem fC.of1 {S S' : St} (h : C1 S S') : fC S S' := ⟨fun c a => h.1 c a, h.2.1 1 (by omega) (by omega) (by omega) (by omega), h.2.2.1⟩
theorem fail_fC {w at_ : Int32} : fC S (uI (uI S 1 8 w) 1 9 at_) := ⟨fun c a => (by repeat' (first | exact Sm.rfl | (refine Sm.uI ?_ (by omega)) | (refine Sm.uA ?_ (by omega)) | (refine Sm.uJ ?_ (by omega)) | (refine Sm.uL ?_ (by omega)) | (refine Sm.uR ?_ (by omega)))), rfl, rfl⟩
theorem c_advP (hT : ∀ i, -128 ≤ T i ∧ T i ≤ 127) (he : e ≤ 400) (hf : 1000 ≤ f) (hd : 2 ≤ d) (h : rdN S d T e D m u) : ∃ S', F_X6_advance sh f S 1 = some S' ∧ rdC S' d T e D (tok T e m) u ∧ fC S S' := by
  obtain ⟨h1, h2, h3, h4, h5, h6⟩ := h
  obtain ⟨S', g1, g2, g3⟩ := c_adv (sh := sh) hT he hf h5.1 h1 h4 h2
  refine ⟨S', g1, ⟨(g2.2.1 2 (by omega) (by omega) (by omega) (by omega)).trans h1, fun i hi => ?_, ?_, g3, dC_sm h6 (fun c a _ => g2.1 c (by omega)), tok8 (tok_bd h5.1) ((g2.2.1 8 (by omega) (by omega) (by omega) (by omega)).trans h5.2)⟩, fC.of1 g2⟩
  · rw [g2.2.2.2.1]; exact h2 i hi
  · rw [g2.2.2.1]; exact h3
theorem c_advQ (hT : ∀ i, -128 ≤ T i ∧ T i ≤ 127) (he : e ≤ 400) (hf : 1000 ≤ f) (hd : 2 ≤ d) (h : rdC S d T e D k u) (hk : k.1 ≠ 5) : ∃ S', F_X6_advance sh f S 1 = some S' ∧ rdC S' d T e D (adv T e k) u ∧ fC S S' := c_advP hT he hf hd (h.next hk)
theorem c_intB {most : Nat} {zok neg : Bool} {fr : Nat} (hd : 2 ≤ d) (hm : most ≤ 99) (hr : fr ≤ 400) (h : rdC S d T e D k u) : ∃ b S', F_X6_readInt_L29 sh f 1 (I most) (if zok = true then 1 else 0) S (I fr) (if neg = true then 1 else 0) = some (b, S') ∧ fC S S' ∧ (match pIntA T e most zok fr neg k with
    | .inl a => b = 0 ∧ flt S' a
    | .inr v => b = 1 ∧ -99 ≤ v.1 ∧ v.1 ≤ 99 ∧ sI S' 1 7 = I v.1 ∧ ∃ m, v.2 = tok T e m ∧ rdN S' d T e D m u) := by
  have q' : (sI S 1 4 = 2) = (k.1 = 2) := tk_eq (n := 2) h (by omega)
  have st := h.2.2.2.1.2.1
  unfold F_X6_readInt_L29 pIntA
  by_cases c : k.1 = 2
  · have v := h.2.2.2.1.2.2.2.2 c
    have b := h.2.2.2.2.2.2.2.2.1 c
    unfold tV at b
    have q1 : (I most < sI S 1 7) = (most < tV k) := by rw [v]; exact I_ltN (by omega) (by omega)
    have q2 : (sI S 1 7 = 0) = (tV k = 0) := by rw [v]; exact I_eqN (b := 0) (by omega) (by omega)
    have nx := h.next (by omega)
    have ok : ∀ x : Int32, rdN (uI S 1 7 x) d T e D k.2.2.1 u := fun x => ⟨nx.1, nx.2.1, nx.2.2.1, nx.2.2.2.1, nx.2.2.2.2.1, dC_sm nx.2.2.2.2.2 (fun c a _ => uI_o (by omega))⟩
    have fU : ∀ x : Int32, fC S (uI S 1 7 x) := fun x => ⟨fun c a => uI_o a, rfl, rfl⟩
    simp only [q', c, if_true, q1, q2]
    by_cases c1 : most < tV k
    · simp only [if_pos c1, fail_ok, Option.bind_some, if_neg n01, if_pos (Or.inl c1 : most < tV k ∨ (tV k = 0 ∧ zok = false))]
      exact ⟨0, _, rfl, fail_fC, rfl, rfl, rfl⟩
    · have done : ∀ x : Int32, x = I (if neg = true then -(tV k : Int) else (tV k : Int)) → ∃ b S', some ((1 : Int32), uI S 1 7 x) = some (b, S') ∧ fC S S' ∧ b = 1 ∧ -99 ≤ (if neg = true then -(tV k : Int) else (tV k : Int)) ∧ (if neg = true then -(tV k : Int) else (tV k : Int)) ≤ 99 ∧ sI S' 1 7 = I (if neg = true then -(tV k : Int) else (tV k : Int)) ∧ ∃ m, adv T e k = tok T e m ∧ rdN S' d T e D m u := by
        intro x hx
        refine ⟨1, _, rfl, fU x, rfl, ?_, ?_, (sI_self _ _ _ _).trans hx, k.2.2.1, rfl, ok x⟩
        · cases neg <;> simp <;> omega
        · cases neg <;> simp <;> omega
      rw [show sI S 1 7 = I (tV k) from v]
      by_cases c2 : tV k = 0
      · cases zok with
        | false =>
          simp only [if_neg c1, if_pos c2, Bool.false_eq_true, if_false, if_true, fail_ok, Option.bind_some, if_neg n01, and_true, if_pos (Or.inr c2 : most < tV k ∨ tV k = 0)]
          exact ⟨0, _, rfl, fail_fC, rfl, rfl, rfl⟩
        | true =>
          cases neg with
          | false =>
            simp only [if_neg c1, if_pos c2, Bool.false_eq_true, if_false, if_true, if_neg i10, bnd, if_neg (by simp [c1] : ¬ (most < tV k ∨ (tV k = 0 ∧ true = false)))]
            exact done _ rfl
          | true =>
            simp only [if_neg c1, if_pos c2, Bool.false_eq_true, if_false, if_true, if_neg i10, bnd, if_neg (by simp [c1] : ¬ (most < tV k ∨ (tV k = 0 ∧ true = false)))]
            exact done _ (I_neg _)
      · have c3 : ¬ (most < tV k ∨ (tV k = 0 ∧ zok = false)) := by
          rintro (a | a)
          · exact c1 a
          · exact c2 a.1
        cases neg with
        | false =>
          simp only [if_neg c1, if_neg c2, Bool.false_eq_true, if_false, if_true, bnd, if_neg c3]
          exact done _ rfl
        | true =>
          simp only [if_neg c1, if_neg c2, Bool.false_eq_true, if_false, if_true, if_neg i10, bnd, if_neg c3]
          exact done _ (I_neg _)
  · simp only [q', c, if_false, fail_ok, Option.bind_some, if_neg n01]
    exact ⟨0, _, rfl, fail_fC, rfl, rfl, st⟩
theorem c_intC {most : Nat} {zok : Bool} (hT : ∀ i, -128 ≤ T i ∧ T i ≤ 127) (he : e ≤ 400) (hf : 1000 ≤ f) (hd : 2 ≤ d) (hm : most ≤ 99) (h : rdC S d T e D k u) : ∃ b S', F_X6_readInt sh f S 1 (I most) (if zok = true then 1 else 0) = some (b, S') ∧ fC S S' ∧ (match pInt T e most zok k with
    | .inl a => b = 0 ∧ flt S' a
    | .inr v => b = 1 ∧ -99 ≤ v.1 ∧ v.1 ≤ 99 ∧ sI S' 1 7 = I v.1 ∧ ∃ m, v.2 = tok T e m ∧ rdN S' d T e D m u) := by
  have q' : (sI S 1 4 = 4) = (k.1 = 4) := tk_eq (n := 4) h (by omega)
  have st : sI S 1 5 = I (tS_ k) := h.2.2.2.1.2.1
  have sb := h.2.2.2.2.2.2.2.2.2.1
  unfold F_X6_readInt pInt
  simp only [bnd, q', st]
  by_cases c : k.1 = 4
  · rw [if_pos c, if_pos c, F_X6_readInt_L18, if_neg i10]
    obtain ⟨S', g1, g2, g3⟩ := c_advQ (sh := sh) hT he hf hd h (by omega)
    rw [g1, Option.bind_some]
    obtain ⟨b, S'', a1, a2, a3⟩ := c_intB (sh := sh) (f := f) (zok := zok) (neg := true) hd hm (fr := tS_ k) (by omega) g2
    exact ⟨b, S'', a1, g3.trans a2, a3⟩
  · rw [if_neg c, if_neg c, F_X6_readInt_L18, if_pos rfl]
    exact c_intB (sh := sh) (f := f) (zok := zok) (neg := false) hd hm (fr := tS_ k) (by omega) h
/-- the rule that is being told: n legs so far -/
def opn (S : St) (d : Nat) (D : Dr) (n : Nat) : Prop := bR D.2 < 4 ∧ n ≤ 4 ∧ sA S (d + 6) (bR D.2) = I n ∧ ∀ j, j < n → bG D.2 (bR D.2) j < bK D.2 ∧ sA S (d + 9) (4 * bR D.2 + j) = I (bG D.2 (bR D.2) j)
theorem opn_sm {S S' : St} {n : Nat} (hd : 2 ≤ d) (h : opn S d D n) (g : fC S S') : opn S' d D n := ⟨h.1, h.2.1, ((g.1 (d + 6) (by omega)).A _).trans h.2.2.1, fun j hj => ⟨(h.2.2.2 j hj).1, ((g.1 (d + 9) (by omega)).A _).trans (h.2.2.2 j hj).2⟩⟩
theorem c_addLeg {n i : Nat} (h : dC S d D u) (o : opn S d D n) : F_X0_addLeg sh f S d (I i) = (if 4 ≤ n then some (0, S) else some (1, uA (uA S (d + 9) (4 * bR D.2 + n) (I i)) (d + 6) (bR D.2) (I ((n + 1 : Nat) : Int)))) := by
  obtain ⟨o1, o2, o3, o4⟩ := o
  have r := h.1.2.1
  have c1 : ¬ (4 : Int32) ≤ I (bR D.2) := by rw [show (4 : Int32) = I ((4 : Nat) : Int) from rfl, I_leN (by omega) (by omega)]; omega
  have cl : (I (bR D.2)).toNatClampNeg = bR D.2 := I_clN (by omega)
  have c2 : ¬ (I (bR D.2) < 0 ∨ 4 ≤ bR D.2) := by
    rw [show (0 : Int32) = I 0 from rfl, I_lt (by omega) (by omega)]; omega
  have q : (I (n : Int) < 4) = (n < 4) := I_ltN (b := 4) (by omega) (by omega)
  unfold F_X0_addLeg
  simp only [r, if_neg c1, cl, if_neg c2, o3, q]
  by_cases c4 : n < 4
  · have ix : I (bR D.2) * 4 + I n = I ((4 * bR D.2 + n : Nat) : Int) := by
      rw [show (4 : Int32) = I 4 from rfl, I_mul, I_add]
      congr 1
      omega
    have cx : (I ((4 * bR D.2 + n : Nat) : Int)).toNatClampNeg = 4 * bR D.2 + n := I_clN (by omega)
    have c5 : ¬ (I ((4 * bR D.2 + n : Nat) : Int) < 0 ∨ 16 ≤ 4 * bR D.2 + n) := by
      rw [show (0 : Int32) = I 0 from rfl, I_lt (by omega) (by omega)]; omega
    have r' : sI (uA S (d + 9) (4 * bR D.2 + n) (I i)) d 10 = I (bR D.2) := r
    have s6 : sA (uA S (d + 9) (4 * bR D.2 + n) (I i)) (d + 6) (bR D.2) = I n := by rw [sA_row _ _ _ (by omega)]; exact o3
    simp only [if_pos c4, if_neg (by omega : ¬ 4 ≤ n), ix, cx, if_neg c5, bnd, r', cl, if_neg c2, s6]
    rw [show (1 : Int32) = I 1 from rfl, I_add]
    rfl
  · simp only [if_neg c4, if_pos (by omega : 4 ≤ n)]
theorem leg_dC {n i : Nat} {v : Int32} (hz : ∀ r, r < bR D.2 → bZ D.2 r ≤ 4) (h : dC S d D u) : dC (uA (uA S (d + 9) (4 * bR D.2 + n) (I i)) (d + 6) (bR D.2) v) d (D.1, dLeg D.2 (bR D.2) n i) u := by
  obtain ⟨⟨h1, h2, h3, h4⟩, h5, h6, h7⟩ := h
  refine ⟨⟨h1, h2, fun j hj => ?_, fun r hr => ?_⟩, h5, h6, h7⟩
  · rw [sA_row _ _ _ (by omega), sA_row _ _ _ (by omega), sA_row _ _ _ (by omega), sA_row _ _ _ (by omega), sA_row _ _ _ (by omega), sA_row _ _ _ (by omega), sA_row _ _ _ (by omega), sA_row _ _ _ (by omega)]
    exact h3 j hj
  · have hr' : r < bR D.2 := hr
    obtain ⟨a1, a2, a3, a4⟩ := h4 r hr'
    have z : bG (dLeg D.2 (bR D.2) n i) r = bG D.2 r := up1_ne _ _ (by omega)
    have s6 : sA (uA (uA S (d + 9) (4 * bR D.2 + n) (I i)) (d + 6) (bR D.2) v) (d + 6) r = sA S (d + 6) r := by
      rw [sA_uA, if_pos rfl, up1_ne _ _ (by omega), sA_row _ _ _ (by omega)]
    refine ⟨s6.trans a1, ?_, ?_, fun k hk => ?_⟩
    · rw [sA_row _ _ _ (by omega), sA_row _ _ _ (by omega)]; exact a2
    · rw [sA_row _ _ _ (by omega), sA_row _ _ _ (by omega)]; exact a3
    · have hk' : k < bZ D.2 r := hk
      have z4 := hz r hr'
      rw [z, sA_row _ _ _ (by omega), sA_uA, if_pos rfl, up1_ne _ _ (by omega)]
      exact a4 k hk
theorem leg_opn {n i : Nat} (hi : i < bK D.2) (hn : n < 4) (o : opn S d D n) : opn (uA (uA S (d + 9) (4 * bR D.2 + n) (I i)) (d + 6) (bR D.2) (I ((n + 1 : Nat) : Int))) d (D.1, dLeg D.2 (bR D.2) n i) (n + 1) := by
  obtain ⟨o1, o2, o3, o4⟩ := o
  refine ⟨o1, by omega, ?_, fun j hj => ?_⟩
  · show sA (uA (uA S (d + 9) (4 * bR D.2 + n) (I i)) (d + 6) (bR D.2) (I ((n + 1 : Nat) : Int))) (d + 6) (bR D.2) = _
    rw [sA_uA, if_pos rfl, up1_self]
  · have z : bG (dLeg D.2 (bR D.2) n i) (bR D.2) = up1 (bG D.2 (bR D.2)) n i := up1_self _ _ _
    show bG (dLeg D.2 (bR D.2) n i) (bR D.2) j < bK D.2 ∧ sA (uA (uA S (d + 9) (4 * bR D.2 + n) (I i)) (d + 6) (bR D.2) (I ((n + 1 : Nat) : Int))) (d + 9) (4 * bR D.2 + j) = I ((bG (dLeg D.2 (bR D.2) n i) (bR D.2) j : Nat) : Int)
    rw [z, sA_row _ _ _ (by omega), sA_uA, if_pos rfl]
    simp only [up1_if]
    by_cases c : j = n
    · rw [if_pos c, if_pos (by omega)]; exact ⟨hi, rfl⟩
    · rw [if_neg c, if_neg (by omega)]; exact o4 j (by omega)
theorem leg_rd {n i : Nat} {v : Int32} (hd : 3 ≤ d) (h : rdC S d T e D k u) (g : dC (uA (uA S (d + 9) (4 * bR D.2 + n) (I i)) (d + 6) (bR D.2) v) d (D.1, dLeg D.2 (bR D.2) n i) u) : rdC (uA (uA S (d + 9) (4 * bR D.2 + n) (I i)) (d + 6) (bR D.2) v) d T e (D.1, dLeg D.2 (bR D.2) n i) k u := by
  obtain ⟨h1, h2, h3, h4, h5, h6⟩ := h
  refine ⟨h1, fun j hj => ?_, h3, h4, g, h6⟩
  rw [sA_row _ _ _ (by omega), sA_row _ _ _ (by omega)]
  exact h2 j hj
theorem c_legs (hT : ∀ i, -128 ≤ T i ∧ T i ≤ 127) (he : e ≤ 400) (hf : 1000 ≤ f) (hd : 3 ≤ d) (ck : ckX0 sh d = true) : ∀ (r n nf : Nat) (S : St) (D : Dr) (k : TK), n + r = 5 → r < nf → (∀ r, r < bR D.2 → bZ D.2 r ≤ 4) → rdC S d T e D k u → opn S d D n → ∃ b S', F_X6_readLegs_L2 sh f 1 nf S (I n) = some (b, S') ∧ fD S S' d ∧ (match pLegs T e r D n k with
    | .inl a => b = 0 ∧ flt S' a
    | .inr a => b = 1 ∧ rdC S' d T e a.1 a.2.2 u ∧ opn S' d a.1 a.2.1 ∧ 3 ≤ a.2.1 ∧ a.2.2.1 = 1 ∧ (a.1.2.1 = D.2.1 ∧ bF a.1.2 = bF D.2 ∧ bH a.1.2 = bH D.2 ∧ bM a.1.2 = bM D.2 ∧ bS a.1.2 = bS D.2 ∧ bZ a.1.2 = bZ D.2)) := by
  intro r
  induction r with
  | zero =>
    intro n nf S D k h1 h2 hz h o
    exact absurd o.2.1 (by omega)
  | succ r ih =>
    intro n nf S D k h1 h2 hz h o
    obtain ⟨nf, rfl⟩ : ∃ e, nf = e + 1 := ⟨nf - 1, by omega⟩
    have n4 := o.2.1
    have st : sI S 1 5 = I (tS_ k) := h.2.2.2.1.2.1
    have c1 : ¬ (4 : Int32) < I n := by rw [show (4 : Int32) = I ((4 : Nat) : Int) from rfl, I_ltN (by omega) (by omega)]; omega
    have q3 : (I (n : Int) < 3) = (n < 3) := I_ltN (b := 3) (by omega) (by omega)
    have q1 : (sI S 1 4 = 1) = (k.1 = 1) := tk_eq (n := 1) h (by omega)
    have hn := c_isName (sh := sh) (f := f) h
    have p1 := h.2.2.1
    have main : ¬ (3 ≤ n ∧ k.1 = 1 ∧ tW k = 89) → ∃ b S', F_X6_readLegs_L33 sh f 1 (F_X6_readLegs_L2 sh f 1 nf) S (I n) = some (b, S') ∧ fD S S' d ∧ (match pLegs T e (r + 1) D n k with
        | .inl a => b = 0 ∧ flt S' a
        | .inr a => b = 1 ∧ rdC S' d T e a.1 a.2.2 u ∧ opn S' d a.1 a.2.1 ∧ 3 ≤ a.2.1 ∧ a.2.2.1 = 1 ∧ (a.1.2.1 = D.2.1 ∧ bF a.1.2 = bF D.2 ∧ bH a.1.2 = bH D.2 ∧ bM a.1.2 = bM D.2 ∧ bS a.1.2 = bS D.2 ∧ bZ a.1.2 = bZ D.2)) := by
      intro nb
      rw [pLegs, if_neg nb, F_X6_readLegs_L33, hn, Option.bind_some]
      by_cases c : nmB k = true
      · have k1 : k.1 = 1 := by
          unfold nmB at c
          exact of_decide_eq_true (Bool.and_eq_true_iff.mp c).1
        have wb := h.2.2.2.2.2.2.2.1 k1
        have w := h.2.2.2.1.2.2.2.1 k1
        have fk := c_find (sh := sh) (f := f) wb hf h.2.2.2.2.1
        rw [if_pos c, if_pos c, if_neg i10, p1, Option.bind_some, if_pos ck, w, show k.2.2.2.1 = tW k from rfl, fk, Option.bind_some]
        cases hfd : findN D.1 (tW k) (bK D.2) 0 with
        | none =>
          simp only [if_true, fail_ok, Option.bind_some, if_neg n01]
          exact ⟨0, _, rfl, fail_fD, rfl, rfl, st⟩
        | some j =>
          have jl := (find_lt _ _ _ hfd).2
          have k8 := h.2.2.2.2.1.2.1
          have cj : ¬ I (j : Int) = -1 := by rw [show (-1 : Int32) = I (-1) from rfl, I_eq (by omega) (by omega)]; omega
          simp only [if_neg cj, Option.bind_some, if_pos ck, c_addLeg h.2.2.2.2.1 o]
          by_cases c4 : 4 ≤ n
          · simp only [if_pos c4, Option.bind_some, if_true, fail_ok, if_neg n01]
            exact ⟨0, _, rfl, fail_fD, rfl, rfl, st⟩
          · simp only [if_neg c4, Option.bind_some, if_neg i10]
            have gD := leg_dC (n := n) (i := j) (v := I ((n + 1 : Nat) : Int)) hz h.2.2.2.2.1
            have gO := leg_opn (n := n) (i := j) (by omega) (by omega) o
            have gR := leg_rd hd h gD
            have fL : fD S (uA (uA S (d + 9) (4 * bR D.2 + n) (I j)) (d + 6) (bR D.2) (I ((n + 1 : Nat) : Int))) d := ⟨fun c _ a => (by repeat' (first | exact Sm.rfl | (refine Sm.uI ?_ (by omega)) | (refine Sm.uA ?_ (by omega)) | (refine Sm.uJ ?_ (by omega)) | (refine Sm.uL ?_ (by omega)) | (refine Sm.uR ?_ (by omega)))), rfl, rfl⟩
            obtain ⟨S', g1, g2, g3⟩ := c_advQ (sh := sh) hT he hf (by omega) gR (by omega)
            rw [g1, Option.bind_some]
            simp only [bnd]
            rw [show (1 : Int32) = I 1 from rfl, I_add]
            obtain ⟨b, S'', a1, a2, a3⟩ := ih (n + 1) nf S' (D.1, dLeg D.2 (bR D.2) n j) (adv T e k) (by omega) (by omega) hz g2 (opn_sm (by omega) gO g3)
            exact ⟨b, S'', a1, (fL.trans g3.fD).trans a2, a3⟩
      · rw [if_neg c, if_neg c, if_pos rfl, fail_ok, Option.bind_some, if_neg n01]
        exact ⟨0, _, rfl, fail_fD, rfl, rfl, st⟩
    rw [F_X6_readLegs_L2, if_neg c1]
    by_cases c3 : n < 3
    · simp only [q3, if_pos c3]
      exact main (by omega)
    · simp only [q3, if_neg c3, q1]
      by_cases ct : k.1 = 1
      · have wb := h.2.2.2.2.2.2.2.1 ct
        have w := h.2.2.2.1.2.2.2.1 ct
        have e5 : (sJ S 1 6 = (89 : Int64)) = (tW k = 89) := by rw [w]; exact J_eqN (b := 89) (by unfold tW at wb; omega) (by omega)
        simp only [if_pos ct, lgc, e5]
        by_cases cb : tW k = 89
        · rw [if_pos cb, pLegs, if_pos ⟨by omega, ct, cb⟩]
          exact ⟨1, S, rfl, ⟨fun _ _ _ => Sm.rfl, rfl, rfl⟩, rfl, h, o, by show 3 ≤ n; omega, ct, rfl, rfl, rfl, rfl, rfl, rfl⟩
        · rw [if_neg cb]
          exact main (fun h => cb h.2.2)
      · simp only [if_neg ct]
        exact main (fun h => ct h.2.1)
end P65
