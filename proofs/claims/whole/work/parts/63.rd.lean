section P63
variable {sh : List Sh} {f : Nat} {S : St} {T : Nat → Int} {e d u m : Nat} {D : Dr} {k : TK}
def rdL (S : St) (d : Nat) (T : Nat → Int) (e : Nat) (o : Option (Int32 × St)) (x : PR (Dr × TK)) : Prop := ∃ b S', o = some (b, S') ∧ fD S S' d ∧ (match x with
    | .inl a => b = 0 ∧ flt S' a
    | .inr a => b = 1 ∧ rdC S' d T e a.1 a.2 (bK a.1.2))
theorem pNew_r {a : Dr × TK} (h : pNew T e D k = .inr a) : a = (addK D (tW k), adv T e k) ∧ bK D.2 < 8 ∧ nmB k = true := by
  unfold pNew at h
  by_cases c : nmB k = true
  · rw [if_pos c] at h
    by_cases c1 : (findN D.1 (tW k) (bK D.2) 0).isSome = true
    · rw [if_pos c1] at h; cases h
    · rw [if_neg c1] at h
      by_cases c2 : 8 ≤ bK D.2
      · rw [if_pos c2] at h; cases h
      · rw [if_neg c2] at h
        cases h
        exact ⟨rfl, by omega, c⟩
  · rw [if_neg c] at h; cases h
theorem kS_dC {foe sort heavy : Nat} {mark : Int} (h : dC S d D u) : dC (kS S d u (I foe) (I sort) (I heavy) (I mark)) d (D.1, dKind D.2 u foe sort heavy mark) (u + 1) := ⟨kS_bk h.1, h.2.1, h.2.2.1, h.2.2.2⟩
theorem kS_fD {i : Nat} {x y z v : Int32} : fD S (kS S d i x y z v) d := ⟨fun c _ a => kS_sm a, rfl, rfl⟩
theorem c_own (hT : ∀ i, -128 ≤ T i ∧ T i ≤ 127) (he : e ≤ 400) (hf : 1000 ≤ f) (hd : 3 ≤ d) (ck : ckX0 sh d = true) (h : rdC S d T e D k (bK D.2)) (hk : k.1 ≠ 5) : rdL S d T e (F_X6_readOwn sh f S 1) (pOwn T e D k) := by
  obtain ⟨S1, g1, g2, g3⟩ := c_advR (sh := sh) hT he hf (by omega) h hk
  obtain ⟨b2, S2, a1, a2, a3⟩ := c_new (sh := sh) hT he hf (by omega) ck g2
  unfold F_X6_readOwn pOwn
  rw [g1, Option.bind_some, a1, Option.bind_some]
  cases hp : pNew T e D (adv T e k) with
  | inl x =>
    rw [hp] at a3
    obtain ⟨rfl, a4, a5⟩ := a3
    exact ⟨0, S2, rfl, g3.trans a2, rfl, a4, a5⟩
  | inr x =>
    rw [hp] at a3
    obtain ⟨rfl, a4⟩ := a3
    obtain ⟨x1, x2, x3⟩ := pNew_r hp
    have xK : bK x.1.2 = bK D.2 + 1 := by rw [x1]; rfl
    obtain ⟨b3, S3, e1, e2, e3⟩ := c_heavy (sh := sh) (f := f) a4
    simp only [if_neg i10, e1, Option.bind_some]
    show rdL S d T e _ (bindP (pHeavy x.2) _)
    cases hh : pHeavy x.2 with
    | inl y =>
      rw [hh] at e3
      obtain ⟨rfl, e4⟩ := e3
      exact ⟨0, S3, rfl, (g3.trans a2).trans e2, rfl, e4⟩
    | inr v =>
      rw [hh] at e3
      obtain ⟨rfl, rfl, e5, e6, e7, e8⟩ := e3
      have p1 := a4.2.2.1
      have nine : sI S3 d 9 = I ((bK D.2 + 1 : Nat) : Int) := by rw [← xK]; exact a4.2.2.2.2.1.1.1
      have c1 : ¬ sI S3 d 9 < 1 := by rw [nine, show (1 : Int32) = I ((1 : Nat) : Int) from rfl, I_ltN (by omega) (by omega)]; omega
      have sb : sI S3 d 9 - 1 = I (bK D.2) := by
        rw [nine, show (1 : Int32) = I 1 from rfl, I_sub]
        congr 1
        omega
      have so : F_X0_setOwn sh f S3 d (I v) = some (kS S3 d (bK D.2) (I (bK D.2)) (I ((0 : Nat) : Int)) (I v) (I 0)) := by
        simp only [F_X0_setOwn, if_neg c1, sb]
        rw [show (0 : Int32) = I ((0 : Nat) : Int) from rfl, c_setKind (by omega)]
        rfl
      simp only [if_neg i10, p1, Option.bind_some, if_pos ck, e6, so]
      have rn := kS_rdN (i := bK D.2) (by omega) (a4.next (by omega)) (kS_dC (foe := bK D.2) (sort := 0) (heavy := v) (mark := 0) a4.2.2.2.2.1) (by omega)
      obtain ⟨S4, n1, n2, n3⟩ := c_advN (sh := sh) hT he hf (by omega) rn
      rw [n1, Option.bind_some]
      refine ⟨1, S4, rfl, ((g3.trans a2).trans kS_fD).trans n3, rfl, ?_⟩
      show rdC S4 d T e (x.1.1, dKind x.1.2 (bK x.1.2 - 1) (bK x.1.2 - 1) 0 v 0) (adv T e x.2) (bK x.1.2)
      rw [xK]
      exact n2
theorem c_two {what : Nat} (hw : what = 1 ∨ what = 2) (hT : ∀ i, -128 ≤ T i ∧ T i ≤ 127) (he : e ≤ 400) (hf : 1000 ≤ f) (hd : 3 ≤ d) (ck : ckX0 sh d = true) (h : rdC S d T e D k (bK D.2)) (hk : k.1 ≠ 5) : rdL S d T e (F_X6_readTwo sh f S 1 (I what)) (pTwo T e what D k) := by
  obtain ⟨S1, g1, g2, g3⟩ := c_advR (sh := sh) hT he hf (by omega) h hk
  obtain ⟨b2, S2, a1, a2, a3⟩ := c_new (sh := sh) hT he hf (by omega) ck g2
  unfold F_X6_readTwo pTwo
  rw [g1, Option.bind_some, a1, Option.bind_some]
  cases hp : pNew T e D (adv T e k) with
  | inl x =>
    rw [hp] at a3
    obtain ⟨rfl, a4, a5⟩ := a3
    exact ⟨0, S2, rfl, g3.trans a2, rfl, a4, a5⟩
  | inr x =>
    rw [hp] at a3
    obtain ⟨rfl, a4⟩ := a3
    obtain ⟨x1, x2, x3⟩ := pNew_r hp
    have xK : bK x.1.2 = bK D.2 + 1 := by rw [x1]; rfl
    obtain ⟨b5, S5, z1, z2, z3⟩ := c_new (sh := sh) hT he hf (by omega) ck a4
    simp only [if_neg i10, z1, Option.bind_some]
    show rdL S d T e _ (bindP (pNew T e x.1 x.2) _)
    cases hp2 : pNew T e x.1 x.2 with
    | inl y =>
      rw [hp2] at z3
      obtain ⟨rfl, z4, z5⟩ := z3
      exact ⟨0, S5, rfl, (g3.trans a2).trans z2, rfl, z4, z5⟩
    | inr y =>
      rw [hp2] at z3
      obtain ⟨rfl, z4⟩ := z3
      obtain ⟨y1, y2, y3⟩ := pNew_r hp2
      have yK : bK y.1.2 = bK D.2 + 2 := by rw [y1]; show bK x.1.2 + 1 = _; omega
      obtain ⟨b3, S3, e1, e2, e3⟩ := c_heavy (sh := sh) (f := f) z4
      simp only [if_neg i10, e1, Option.bind_some]
      show rdL S d T e _ (bindP (pHeavy y.2) _)
      cases hh : pHeavy y.2 with
      | inl w =>
        rw [hh] at e3
        obtain ⟨rfl, e4⟩ := e3
        exact ⟨0, S3, rfl, ((g3.trans a2).trans z2).trans e2, rfl, e4⟩
      | inr v =>
        rw [hh] at e3
        obtain ⟨rfl, rfl, e5, e6, e7, e8⟩ := e3
        obtain ⟨S6, o1, o2, o3⟩ := c_advR (sh := sh) hT he hf (by omega) z4 (by omega)
        obtain ⟨b7, S7, t1, t2, t3⟩ := c_int (sh := sh) (most := 9) (zok := true) hT he hf (by omega) (by omega) o2
        have t1' : F_X6_readInt sh f S6 1 9 1 = some (b7, S7) := t1
        simp only [if_neg i10, bnd, e6, o1, Option.bind_some, t1']
        show rdL S d T e _ (bindP (pInt T e 9 true (adv T e y.2)) _)
        cases hi : pInt T e 9 true (adv T e y.2) with
        | inl w =>
          rw [hi] at t3
          obtain ⟨rfl, t4⟩ := t3
          exact ⟨0, S7, rfl, (((g3.trans a2).trans z2).trans o3).trans t2, rfl, t4⟩
        | inr w =>
          rw [hi] at t3
          obtain ⟨rfl, t4, t5, t6, m, t7, t8⟩ := t3
          have p1 := t8.2.2.1
          have nine : ∀ S8 : St, sI S8 d = sI S7 d → sI S8 d 9 = I ((bK D.2 + 2 : Nat) : Int) := fun S8 hS => by rw [hS, ← yK]; exact t8.2.2.2.2.2.1.1
          have n7 := nine S7 rfl
          have c1 : ¬ sI S7 d 9 < 2 := by rw [n7, show (2 : Int32) = I ((2 : Nat) : Int) from rfl, I_ltN (by omega) (by omega)]; omega
          rw [n7] at c1
          have sb2 : I ((bK D.2 + 2 : Nat) : Int) - 2 = I (bK D.2) := by
            rw [show (2 : Int32) = I 2 from rfl, I_sub]
            congr 1
            omega
          have sb1 : I ((bK D.2 + 2 : Nat) : Int) - 1 = I ((bK D.2 + 1 : Nat) : Int) := by
            rw [show (1 : Int32) = I 1 from rfl, I_sub]
            congr 1
            omega
          have so : F_X0_setTwo sh f S7 d (I what) (I v) (sI S7 1 7) = some (kS (kS S7 d (bK D.2) (I ((bK D.2 + 1 : Nat) : Int)) (I what) (I v) (I w.1)) d (bK D.2 + 1) (I (bK D.2)) (I what) (I v) (I (-w.1))) := by
            have n8 : sI (kS S7 d (bK D.2) (I ((bK D.2 + 1 : Nat) : Int)) (I what) (I v) (I w.1)) d 9 = I ((bK D.2 + 2 : Nat) : Int) := nine _ rfl
            simp only [F_X0_setTwo, n7, if_neg c1, sb2, sb1, t6]
            rw [c_setKind (by omega), Option.bind_some, n8, sb1, sb2, c_setKind (by omega), Option.bind_some, I_neg]
          have k1 := kS_dC (foe := bK D.2 + 1) (sort := what) (heavy := v) (mark := w.1) t8.2.2.2.2.2
          have r1 := kS_rdN (by omega) t8 k1 (by omega)
          have k2 := kS_dC (foe := bK D.2) (sort := what) (heavy := v) (mark := -w.1) k1
          have r2 := kS_rdN (by omega) r1 k2 (by omega)
          simp only [if_neg i10, p1, Option.bind_some, if_pos ck, so]
          obtain ⟨S9, n1, n2, n3⟩ := c_advN (sh := sh) hT he hf (by omega) r2
          rw [n1, Option.bind_some]
          refine ⟨1, S9, rfl, ((((((g3.trans a2).trans z2).trans o3).trans t2).trans kS_fD).trans kS_fD).trans n3, rfl, ?_⟩
          show rdC S9 d T e (y.1.1, dKind (dKind y.1.2 (bK y.1.2 - 2) (bK y.1.2 - 1) what v w.1) (bK y.1.2 - 1) (bK y.1.2 - 2) what v (-w.1)) w.2 (bK y.1.2)
          rw [yK, t7]
          exact n2
end P63
