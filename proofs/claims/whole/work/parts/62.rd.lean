section P62
variable {sh : List Sh} {f : Nat} {S : St} {T : Nat → Int} {e d u m : Nat} {D : Dr} {k : TK}
/-- the reader, of which only the place of the next token is known -/
def rdN (S : St) (d : Nat) (T : Nat → Int) (e : Nat) (D : Dr) (m u : Nat) : Prop := sI S 1 2 = I e ∧ (∀ i, i < e → sA S 2 i = I (T i)) ∧ sR S 1 10 = some d ∧ sI S 1 3 = I m ∧ (m ≤ e ∧ sI S 1 8 = I 0) ∧ dC S d D u
theorem rdC.next (h : rdC S d T e D k u) (hk : k.1 ≠ 5) : rdN S d T e D k.2.2.1 u := ⟨h.1, h.2.1, h.2.2.1, h.2.2.2.1.2.2.1 hk, ⟨h.2.2.2.2.2.2.1 hk, h.2.2.2.2.2.2.2.2.2.2⟩, h.2.2.2.2.1⟩
theorem c_advN (hT : ∀ i, -128 ≤ T i ∧ T i ≤ 127) (he : e ≤ 400) (hf : 1000 ≤ f) (hd : 2 ≤ d) (h : rdN S d T e D m u) : ∃ S', F_X6_advance sh f S 1 = some S' ∧ rdC S' d T e D (tok T e m) u ∧ fD S S' d := by
  obtain ⟨h1, h2, h3, h4, h5, h6⟩ := h
  obtain ⟨S', g1, g2, g3⟩ := c_adv (sh := sh) hT he hf h5.1 h1 h4 h2
  refine ⟨S', g1, ⟨(g2.2.1 2 (by omega) (by omega) (by omega) (by omega)).trans h1, fun i hi => ?_, ?_, g3, dC_sm h6 (fun c a _ => g2.1 c (by omega)), tok8 (tok_bd h5.1) ((g2.2.1 8 (by omega) (by omega) (by omega) (by omega)).trans h5.2)⟩, fD.of1 g2⟩
  · rw [g2.2.2.2.1]; exact h2 i hi
  · rw [g2.2.2.1]; exact h3
def flt (S : St) (a : Nat × Nat) : Prop := sI S 1 8 = I a.1 ∧ sI S 1 9 = I a.2
theorem tk_eq {n : Nat} (h : rdC S d T e D k u) (hn : n ≤ 5) : (sI S 1 4 = I n) = (k.1 = n) := by
  have := h.2.2.2.2.2.1
  rw [h.2.2.2.1.1]
  exact I_eqN (by omega) (by omega)
theorem c_heavy (h : rdC S d T e D k u) : ∃ b S', F_X6_readHeavy sh f S 1 = some (b, S') ∧ fD S S' d ∧ (match pHeavy k with
    | .inl a => b = 0 ∧ flt S' a
    | .inr v => b = 1 ∧ S' = S ∧ k.1 = 2 ∧ sI S 1 7 = I v ∧ 1 ≤ v ∧ v ≤ 99) := by
  have q := tk_eq (n := 2) h (by omega)
  have st := h.2.2.2.1.2.1
  have q' : (sI S 1 4 = 2) = (k.1 = 2) := q
  unfold F_X6_readHeavy pHeavy
  by_cases c : k.1 = 2
  · have v := h.2.2.2.1.2.2.2.2 c
    have b := h.2.2.2.2.2.2.2.2.1 c
    unfold tV at b
    have q1 : (sI S 1 7 < 1) = (tV k < 1) := by rw [v]; exact I_ltN (b := 1) (by omega) (by omega)
    have q2 : (sI S 1 7 ≤ 99) = (tV k ≤ 99) := by rw [v]; exact I_leN (k := 99) (by omega) (by omega)
    simp only [q', c, if_true, q1, q2]
    by_cases c1 : tV k < 1
    · simp only [if_pos c1, fail_ok, Option.bind_some, if_true, if_pos (Or.inl c1 : tV k < 1 ∨ 99 < tV k)]
      exact ⟨0, _, rfl, fail_fD, rfl, rfl, st⟩
    · by_cases c2 : tV k ≤ 99
      · simp only [if_neg c1, if_pos c2, if_neg (by omega : ¬ (tV k < 1 ∨ 99 < tV k))]
        exact ⟨1, S, rfl, ⟨fun _ _ _ => Sm.rfl, rfl, rfl⟩, rfl, rfl, trivial, v, by omega, c2⟩
      · simp only [if_neg c1, if_neg c2, fail_ok, Option.bind_some, if_true, if_pos (by omega : tV k < 1 ∨ 99 < tV k)]
        exact ⟨0, _, rfl, fail_fD, rfl, rfl, st⟩
  · simp only [q', c, if_false, fail_ok, Option.bind_some, if_neg n01]
    exact ⟨0, _, rfl, fail_fD, rfl, rfl, st⟩
theorem c_intA {most : Nat} {zok neg : Bool} {fr : Nat} (hd : 2 ≤ d) (hm : most ≤ 99) (hr : fr ≤ 400) (h : rdC S d T e D k u) : ∃ b S', F_X6_readInt_L29 sh f 1 (I most) (if zok = true then 1 else 0) S (I fr) (if neg = true then 1 else 0) = some (b, S') ∧ fD S S' d ∧ (match pIntA T e most zok fr neg k with
    | .inl a => b = 0 ∧ flt S' a
    | .inr v => b = 1 ∧ -99 ≤ v.1 ∧ v.1 ≤ 99 ∧ sI S' 1 7 = I v.1 ∧ ∃ m, v.2 = tok T e m ∧ rdN S' d T e D m u) := by
  have q' : (sI S 1 4 = 2) = (k.1 = 2) := tk_eq (n := 2) h (by omega)
  have st := h.2.2.2.1.2.1
  unfold F_X6_readInt_L29 pIntA
  by_cases c : k.1 = 2
  · have v := h.2.2.2.1.2.2.2.2 c
    have b := h.2.2.2.2.2.2.2.2.1 c
    unfold tV at b
    have q1 : (I most < sI S 1 7) = (most < tV k) := by rw [v]; exact I_ltN (by omega) (by omega)
    have q2 : (sI S 1 7 = 0) = (tV k = 0) := by rw [v]; exact I_eqN (b := 0) (by omega) (by omega)
    have nx := h.next (by omega)
    have ok : ∀ x : Int32, rdN (uI S 1 7 x) d T e D k.2.2.1 u := fun x => ⟨nx.1, nx.2.1, nx.2.2.1, nx.2.2.2.1, nx.2.2.2.2.1, dC_sm nx.2.2.2.2.2 (fun c a _ => uI_o (by omega))⟩
    have fU : ∀ x : Int32, fD S (uI S 1 7 x) d := fun x => ⟨fun c a _ => uI_o a, rfl, rfl⟩
    simp only [q', c, if_true, q1, q2]
    by_cases c1 : most < tV k
    · simp only [if_pos c1, fail_ok, Option.bind_some, if_neg n01, if_pos (Or.inl c1 : most < tV k ∨ (tV k = 0 ∧ zok = false))]
      exact ⟨0, _, rfl, fail_fD, rfl, rfl, rfl⟩
    · have done : ∀ x : Int32, x = I (if neg = true then -(tV k : Int) else (tV k : Int)) → ∃ b S', some ((1 : Int32), uI S 1 7 x) = some (b, S') ∧ fD S S' d ∧ b = 1 ∧ -99 ≤ (if neg = true then -(tV k : Int) else (tV k : Int)) ∧ (if neg = true then -(tV k : Int) else (tV k : Int)) ≤ 99 ∧ sI S' 1 7 = I (if neg = true then -(tV k : Int) else (tV k : Int)) ∧ ∃ m, adv T e k = tok T e m ∧ rdN S' d T e D m u := by
        intro x hx
        refine ⟨1, _, rfl, fU x, rfl, ?_, ?_, (sI_self _ _ _ _).trans hx, k.2.2.1, rfl, ok x⟩
        · cases neg <;> simp <;> omega
        · cases neg <;> simp <;> omega
      rw [show sI S 1 7 = I (tV k) from v]
      by_cases c2 : tV k = 0
      · cases zok with
        | false =>
          simp only [if_neg c1, if_pos c2, Bool.false_eq_true, if_false, if_true, fail_ok, Option.bind_some, if_neg n01, and_true, if_pos (Or.inr c2 : most < tV k ∨ tV k = 0)]
          exact ⟨0, _, rfl, fail_fD, rfl, rfl, rfl⟩
        | true =>
          cases neg with
          | false =>
            simp only [if_neg c1, if_pos c2, Bool.false_eq_true, if_false, if_true, if_neg i10, bnd, if_neg (by simp [c1] : ¬ (most < tV k ∨ (tV k = 0 ∧ true = false)))]
            exact done _ rfl
          | true =>
            simp only [if_neg c1, if_pos c2, Bool.false_eq_true, if_false, if_true, if_neg i10, bnd, if_neg (by simp [c1] : ¬ (most < tV k ∨ (tV k = 0 ∧ true = false)))]
            exact done _ (I_neg _)
      · have c3 : ¬ (most < tV k ∨ (tV k = 0 ∧ zok = false)) := by
          rintro (a | a)
          · exact c1 a
          · exact c2 a.1
        cases neg with
        | false =>
          simp only [if_neg c1, if_neg c2, Bool.false_eq_true, if_false, if_true, bnd, if_neg c3]
          exact done _ rfl
        | true =>
          simp only [if_neg c1, if_neg c2, Bool.false_eq_true, if_false, if_true, if_neg i10, bnd, if_neg c3]
          exact done _ (I_neg _)
  · simp only [q', c, if_false, fail_ok, Option.bind_some, if_neg n01]
    exact ⟨0, _, rfl, fail_fD, rfl, rfl, st⟩
theorem c_int {most : Nat} {zok : Bool} (hT : ∀ i, -128 ≤ T i ∧ T i ≤ 127) (he : e ≤ 400) (hf : 1000 ≤ f) (hd : 2 ≤ d) (hm : most ≤ 99) (h : rdC S d T e D k u) : ∃ b S', F_X6_readInt sh f S 1 (I most) (if zok = true then 1 else 0) = some (b, S') ∧ fD S S' d ∧ (match pInt T e most zok k with
    | .inl a => b = 0 ∧ flt S' a
    | .inr v => b = 1 ∧ -99 ≤ v.1 ∧ v.1 ≤ 99 ∧ sI S' 1 7 = I v.1 ∧ ∃ m, v.2 = tok T e m ∧ rdN S' d T e D m u) := by
  have q' : (sI S 1 4 = 4) = (k.1 = 4) := tk_eq (n := 4) h (by omega)
  have st : sI S 1 5 = I (tS_ k) := h.2.2.2.1.2.1
  have sb := h.2.2.2.2.2.2.2.2.2.1
  unfold F_X6_readInt pInt
  simp only [bnd, q', st]
  by_cases c : k.1 = 4
  · rw [if_pos c, if_pos c, F_X6_readInt_L18, if_neg i10]
    obtain ⟨S', g1, g2, g3⟩ := c_advR (sh := sh) hT he hf hd h (by omega)
    rw [g1, Option.bind_some]
    obtain ⟨b, S'', a1, a2, a3⟩ := c_intA (sh := sh) (f := f) (zok := zok) (neg := true) hd hm (fr := tS_ k) (by omega) g2
    exact ⟨b, S'', a1, g3.trans a2, a3⟩
  · rw [if_neg c, if_neg c, F_X6_readInt_L18, if_pos rfl]
    exact c_intA (sh := sh) (f := f) (zok := zok) (neg := false) hd hm (fr := tS_ k) (by omega) h
/-- a kind's row written -/
def kS (S : St) (d i : Nat) (a b c m : Int32) : St := uA (uA (uA (uA S (d + 2) i a) (d + 5) i b) (d + 3) i c) (d + 4) i m
theorem c_setKind {i : Nat} {a b c m : Int32} (hi : i < 8) : F_X0_setKind sh f S d (I i) a b c m = some (kS S d i a b c m) := by
  have cl : (I i).toNatClampNeg = i := I_clN (by omega)
  have c1 : ¬ (I i < 0 ∨ 8 ≤ i) := by
    rw [show (0 : Int32) = I 0 from rfl, I_lt (by omega) (by omega)]; omega
  simp only [F_X0_setKind, cl, if_neg c1, bnd]
  rfl
theorem kS_bk {foe sort heavy : Nat} {mark : Int} {B : Bk} (h : bkU S d B u) : bkU (kS S d u (I foe) (I sort) (I heavy) (I mark)) d (dKind B u foe sort heavy mark) (u + 1) := by
  obtain ⟨h1, h2, h3, h4⟩ := h
  have r2 : sA (kS S d u (I foe) (I sort) (I heavy) (I mark)) (d + 2) = up1 (sA S (d + 2)) u (I foe) := by
    unfold kS
    rw [sA_row _ _ _ (by omega), sA_row _ _ _ (by omega), sA_row _ _ _ (by omega), sA_uA, if_pos rfl]
  have r5 : sA (kS S d u (I foe) (I sort) (I heavy) (I mark)) (d + 5) = up1 (sA S (d + 5)) u (I sort) := by
    unfold kS
    rw [sA_row _ _ _ (by omega), sA_row _ _ _ (by omega), sA_uA, if_pos rfl, sA_row _ _ _ (by omega)]
  have r3 : sA (kS S d u (I foe) (I sort) (I heavy) (I mark)) (d + 3) = up1 (sA S (d + 3)) u (I heavy) := by
    unfold kS
    rw [sA_row _ _ _ (by omega), sA_uA, if_pos rfl, sA_row _ _ _ (by omega), sA_row _ _ _ (by omega)]
  have r4 : sA (kS S d u (I foe) (I sort) (I heavy) (I mark)) (d + 4) = up1 (sA S (d + 4)) u (I mark) := by
    unfold kS
    rw [sA_uA, if_pos rfl, sA_row _ _ _ (by omega), sA_row _ _ _ (by omega), sA_row _ _ _ (by omega)]
  have rr : ∀ j, 6 ≤ j → sA (kS S d u (I foe) (I sort) (I heavy) (I mark)) (d + j) = sA S (d + j) := by
    intro j hj
    unfold kS
    rw [sA_row _ _ _ (by omega), sA_row _ _ _ (by omega), sA_row _ _ _ (by omega), sA_row _ _ _ (by omega)]
  refine ⟨h1, h2, fun i hi => ?_, fun r hr => ?_⟩
  · rw [r2, r3, r4, r5]
    show up1 (sA S (d + 2)) u (I foe) i = I ((up1 (bF B) u foe i : Nat) : Int) ∧ up1 (sA S (d + 3)) u (I heavy) i = I ((up1 (bH B) u heavy i : Nat) : Int) ∧ up1 (sA S (d + 4)) u (I mark) i = I (up1 (bM B) u mark i) ∧ up1 (sA S (d + 5)) u (I sort) i = I ((up1 (bS B) u sort i : Nat) : Int)
    simp only [up1_if]
    by_cases c : i = u
    · simp only [if_pos c, and_self]
    · simp only [if_neg c]; exact h3 i (by omega)
  · rw [rr 6 (by omega), rr 7 (by omega), rr 8 (by omega), rr 9 (by omega)]
    exact h4 r hr
theorem kS_sm {i c : Nat} {x y z v : Int32} (h : c < d ∨ d + 9 < c) : Sm S (kS S d i x y z v) c := (by repeat' (first | exact Sm.rfl | (refine Sm.uI ?_ (by omega)) | (refine Sm.uA ?_ (by omega)) | (refine Sm.uJ ?_ (by omega)) | (refine Sm.uL ?_ (by omega)) | (refine Sm.uR ?_ (by omega))))
theorem kS_rdN {i u' : Nat} {x y z v : Int32} {D' : Dr} (hd : 2 ≤ d) (h : rdN S d T e D m u) (g : dC (kS S d i x y z v) d D' u') (c2 : d ≠ 2) : rdN (kS S d i x y z v) d T e D' m u' := by
  obtain ⟨h1, h2, h3, h4, h5, h6⟩ := h
  refine ⟨h1, fun j hj => ?_, h3, h4, h5, g⟩
  rw [(kS_sm (d := d) (Or.inl (by omega))).1]
  exact h2 j hj
end P62
