section R75
variable {sh : List Sh} {f : Nat} {S : St} {T : Nat → Int} {e q u m : Nat} {D : Dr} {k : TK}
/-- what the reference does behind the word by -/
def mrest (sh : List Sh) (f : Nat) (S : St) (l1 l2 l3 : Int32) : Option (St ⊕ (Nat × St)) :=
  (F_X12_next sh f S 94).bind fun y4 =>
  (sR y4 94 6).bind fun b5 =>
  if ckX9 sh b5 = true then (
    if l2 < 0 ∨ 4 ≤ l2.toNatClampNeg then none else
    bnd (uA y4 (b5 + 6) l2.toNatClampNeg l3) fun S6 =>
    (sR S6 94 6).bind fun b7 =>
    if ckX9 sh b7 = true then (
      (F_X12_readInt sh f S6 94 (99 : Int32) (1 : Int32)).bind fun y8 => thr y8 fun y8 =>
      if l2 < 0 ∨ 4 ≤ l2.toNatClampNeg then none else
      bnd (uA y8.2 (b7 + 8) l2.toNatClampNeg y8.1) fun S9 =>
      if (sI S9 94 12) = (2 : Int32) then (
        (sR S9 94 6).bind fun b10 =>
        if ckX9 sh b10 = true then (
          (F_X12_isWord sh f S9 94 5).bind fun y12 =>
          if y12 = 0 then (
            (F_X12_isWord sh f S9 94 6).bind fun y14 =>
            if y14 = 0 then (
              (F_X12_isWord sh f S9 94 7).bind fun y16 =>
              if y16 = 0 then (
                F_X12_readMeet_L234 sh f 94 S9 l1 l2 (b10 + 9) l2 (-1 : Int32)
              ) else (
                F_X12_readMeet_L234 sh f 94 S9 l1 l2 (b10 + 9) l2 (2 : Int32)
              )
            ) else (
              F_X12_readMeet_L234 sh f 94 S9 l1 l2 (b10 + 9) l2 (1 : Int32)
            )
          ) else (
            F_X12_readMeet_L234 sh f 94 S9 l1 l2 (b10 + 9) l2 (0 : Int32)
          )
        ) else none
      ) else (
        (F_X12_stop sh f S9 94 (1 : Int32)).bind fun y17 =>
        if ¬ ckX11 sh y17.1 = true then none else
        some (.inr (y17.1, y17.2))
      )
    ) else none
  ) else none
def opR (S : St) (q : Nat) (D : Dr) (n : Nat) : Prop := bR D.2 < 4 ∧ n ≤ 4 ∧ ∀ j, j < n → bG D.2 (bR D.2) j < bK D.2 ∧ sA S (q + 7) (4 * bR D.2 + j) = I (bG D.2 (bR D.2) j)
theorem opR_sm {S S' : St} {n : Nat} (h : opR S q D n) (g : Sm S S' (q + 7)) : opR S' q D n := ⟨h.1, h.2.1, fun j hj => ⟨(h.2.2 j hj).1, (g.A _).trans (h.2.2 j hj).2⟩⟩
theorem rleg_rd {n i : Nat} (hq : q = 95 ∨ 159 ≤ q) (hz : ∀ r, r < bR D.2 → bZ D.2 r ≤ 4) (h : rdR S q T e D k u) : rdR (uA S (q + 7) (4 * bR D.2 + n) (I i)) q T e (D.1, dLeg D.2 (bR D.2) n i) k u := by
  obtain ⟨h1, h2, h3, h4, ⟨⟨b1, b2, b3, b4⟩, h5, h6, h7⟩, h8⟩ := h
  refine ⟨h1, fun j hj => ?_, h3, h4, ⟨⟨b1, b2, fun j hj => ?_, fun r hr => ?_⟩, h5, h6, h7⟩, h8⟩
  · rw [sA_row _ _ _ (by omega)]; exact h2 j hj
  · rw [sA_row _ _ _ (by omega), sA_row _ _ _ (by omega), sA_row _ _ _ (by omega), sA_row _ _ _ (by omega), sA_row _ _ _ (by omega)]; exact b3 j hj
  · have hr' : r < bR D.2 := hr
    obtain ⟨a1, a2, a3, a4⟩ := b4 r hr'
    have z : bG (dLeg D.2 (bR D.2) n i) r = bG D.2 r := up1_ne _ _ (by omega)
    refine ⟨?_, ?_, ?_, fun k hk => ?_⟩
    · rw [sA_row _ _ _ (by omega)]; exact a1
    · rw [sA_row _ _ _ (by omega)]; exact a2
    · rw [sA_row _ _ _ (by omega)]; exact a3
    · have hk' : k < bZ D.2 r := hk
      have z4 := hz r hr'
      rw [z, sA_uA, if_pos rfl, up1_ne _ _ (by omega)]
      exact a4 k hk
theorem rleg_op {n i : Nat} (hi : i < bK D.2) (hn : n < 4) (o : opR S q D n) : opR (uA S (q + 7) (4 * bR D.2 + n) (I i)) q (D.1, dLeg D.2 (bR D.2) n i) (n + 1) := by
  obtain ⟨o1, o2, o4⟩ := o
  refine ⟨o1, by omega, fun j hj => ?_⟩
  have z : bG (dLeg D.2 (bR D.2) n i) (bR D.2) = up1 (bG D.2 (bR D.2)) n i := up1_self _ _ _
  show bG (dLeg D.2 (bR D.2) n i) (bR D.2) j < bK D.2 ∧ sA (uA S (q + 7) (4 * bR D.2 + n) (I i)) (q + 7) (4 * bR D.2 + j) = I ((bG (dLeg D.2 (bR D.2) n i) (bR D.2) j : Nat) : Int)
  rw [z, sA_uA, if_pos rfl]
  simp only [up1_if]
  by_cases c : j = n
  · rw [if_pos c, if_pos (by omega)]; exact ⟨hi, rfl⟩
  · rw [if_neg c, if_neg (by omega)]; exact o4 j (by omega)
theorem r_legs {fr : Int32} (hT : ∀ i, -128 ≤ T i ∧ T i ≤ 127) (he : e ≤ 400) (hf : 1000 ≤ f) (hq : q = 95 ∨ 159 ≤ q) (ck : ckX9 sh q = true) (cx : ckX11 sh 106 = true) : ∀ (r n nf : Nat) (S : St) (D : Dr) (k : TK), n + r = 5 → r < nf → (∀ r, r < bR D.2 → bZ D.2 r ≤ 4) → rdR S q T e D k u → opR S q D n → (match pLegs T e r D n k with
    | .inl a => ∃ S', F_X12_readMeet_L37 sh f 94 nf S fr (I (bR D.2)) (I n) = some (.inr (106, S')) ∧ fR S S' q ∧ stp S' a
    | .inr a => ∃ S', F_X12_readMeet_L37 sh f 94 nf S fr (I (bR D.2)) (I n) = mrest sh f S' fr (I (bR D.2)) (I a.2.1) ∧ fR S S' q ∧ rdR S' q T e a.1 a.2.2 u ∧ opR S' q a.1 a.2.1 ∧ a.2.2.1 = 1) := by
  intro r
  induction r with
  | zero =>
    intro n nf S D k h1 h2 hz h o
    exact absurd o.2.1 (by omega)
  | succ r ih =>
    intro n nf S D k h1 h2 hz h o
    obtain ⟨nf, rfl⟩ : ∃ e, nf = e + 1 := ⟨nf - 1, by omega⟩
    have n4 := o.2.1
    have r4 := o.1
    have q3 : (I (n : Int) < 3) = (n < 3) := I_ltN (b := 3) (by omega) (by omega)
    have hn := r_isName (sh := sh) hf h
    have hw := r_isWord (sh := sh) (i := 4) hf (by omega) h
    have p1 := h.2.2.1
    have stop := fun w : Int32 => r_stop (f := f) (w := w) cx h
    have main : ¬ (3 ≤ n ∧ k.1 = 1 ∧ tW k = 89) → (match pLegs T e (r + 1) D n k with
        | .inl a => ∃ S', F_X12_readMeet_L49 sh f 94 (F_X12_readMeet_L37 sh f 94 nf) S fr (I (bR D.2)) (I n) = some (.inr (106, S')) ∧ fR S S' q ∧ stp S' a
        | .inr a => ∃ S', F_X12_readMeet_L49 sh f 94 (F_X12_readMeet_L37 sh f 94 nf) S fr (I (bR D.2)) (I n) = mrest sh f S' fr (I (bR D.2)) (I a.2.1) ∧ fR S S' q ∧ rdR S' q T e a.1 a.2.2 u ∧ opR S' q a.1 a.2.1 ∧ a.2.2.1 = 1) := by
      intro nb
      rw [pLegs, if_neg nb, F_X12_readMeet_L49, hn, Option.bind_some]
      by_cases c : nmB k = true
      · have k1 := nm1 c
        have wb := h.2.2.2.2.2.2.2.1 k1
        have w : sJ S 94 16 = J (tW k) := h.2.2.2.1.2.2.2.2.2.1 k1
        have fk := r_find (sh := sh) (f := f) wb hf h.2.2.2.2.1
        rw [if_pos c, if_pos c, if_neg i10, p1, Option.bind_some, if_pos ck, w, fk, Option.bind_some]
        cases hfd : findN D.1 (tW k) (bK D.2) 0 with
        | none =>
          simp only [if_true, stop, Option.bind_some, cx, not_true_eq_false, if_false]
          exact ⟨_, rfl, thS_fR, thS_stp⟩
        | some j =>
          have jl := (find_lt _ _ _ hfd).2
          have k8 := h.2.2.2.2.1.2.1
          have cj : ¬ I (j : Int) = -1 := by rw [show (-1 : Int32) = I (-1) from rfl, I_eq (by omega) (by omega)]; omega
          have q4 : (I (n : Int) = 4) = (n = 4) := I_eqN (b := 4) (by omega) (by omega)
          simp only [if_neg cj, q4, Option.bind_some, if_pos ck]
          by_cases c4 : 4 ≤ n
          · simp only [if_pos (by omega : n = 4), if_pos c4, stop, Option.bind_some, cx, not_true_eq_false, if_false]
            exact ⟨_, rfl, thS_fR, thS_stp⟩
          · have ix : (4 : Int32) * I (bR D.2) + I n = I ((4 * bR D.2 + n : Nat) : Int) := by
              rw [show (4 : Int32) = I 4 from rfl, I_mul, I_add]
              congr 1
            have cl : (I ((4 * bR D.2 + n : Nat) : Int)).toNatClampNeg = 4 * bR D.2 + n := I_clN (by omega)
            have c2 : ¬ (I ((4 * bR D.2 + n : Nat) : Int) < 0 ∨ 16 ≤ 4 * bR D.2 + n) := by
              rw [show (0 : Int32) = I 0 from rfl, I_lt (by omega) (by omega)]; omega
            have gR := rleg_rd (n := n) (i := j) hq hz h
            have gO := rleg_op (n := n) (i := j) (by omega) (by omega) o
            obtain ⟨S', g1, g2, g3⟩ := r_advR (sh := sh) hT he hf hq gR (by omega)
            have fL : fR S (uA S (q + 7) (4 * bR D.2 + n) (I j)) q := ⟨fun c _ _ a => (by repeat' (first | exact Sm.rfl | (refine Sm.uI ?_ (by omega)) | (refine Sm.uA ?_ (by omega)) | (refine Sm.uJ ?_ (by omega)) | (refine Sm.uL ?_ (by omega)) | (refine Sm.uR ?_ (by omega)))), fun _ _ => rfl, fun _ _ => rfl, rfl⟩
            simp only [if_neg (by omega : ¬ n = 4), if_neg c4, ix, cl, if_neg c2, bnd, g1, Option.bind_some]
            rw [show (1 : Int32) = I 1 from rfl, I_add]
            have A := ih (n + 1) nf S' (D.1, dLeg D.2 (bR D.2) n j) (adv T e k) (by omega) (by omega) hz g2 (opR_sm gO (g3.1 (q + 7) (by omega)))
            cases hp : pLegs T e r (D.1, dLeg D.2 (bR D.2) n j) (n + 1) (adv T e k) with
            | inl a =>
              rw [hp] at A
              obtain ⟨S'', a1, a2, a3⟩ := A
              exact ⟨S'', a1, (fL.trans (fR.of9 g3)).trans a2, a3⟩
            | inr a =>
              rw [hp] at A
              obtain ⟨S'', a1, a2, a3⟩ := A
              exact ⟨S'', a1, (fL.trans (fR.of9 g3)).trans a2, a3⟩
      · rw [if_neg c, if_neg c, if_pos rfl, stop, Option.bind_some, if_neg (by rw [cx]; decide)]
        exact ⟨_, rfl, thS_fR, thS_stp⟩
    rw [F_X12_readMeet_L37]
    by_cases c3 : n < 3
    · simp only [q3, if_pos c3]
      exact main (by omega)
    · simp only [q3, if_neg c3, hn, Option.bind_some, hw, show wdOf 4 = 89 from rfl]
      by_cases c : nmB k = true
      · simp only [if_pos c, if_neg i10]
        refine main (fun hh => ?_)
        unfold nmB at c
        simp [hh.2.2] at c
      · simp only [if_neg c, if_true]
        by_cases cb : k.1 = 1 ∧ tW k = 89
        · simp only [if_pos cb, if_neg i10]
          rw [pLegs, if_pos ⟨by omega, cb.1, cb.2⟩]
          exact ⟨S, rfl, ⟨fun _ _ _ _ => Sm.rfl, fun _ _ => rfl, fun _ _ => rfl, rfl⟩, h, o, cb.1⟩
        · simp only [if_neg cb, if_true]
          rw [pLegs, if_neg (fun hh => cb hh.2), if_neg c, stop, Option.bind_some, if_neg (by rw [cx]; decide)]
          exact ⟨_, rfl, thS_fR, thS_stp⟩
end R75
