section R73
variable {sh : List Sh} {f : Nat} {S : St} {T : Nat → Int} {e q u m : Nat} {D : Dr} {k : TK}
theorem r_in {v : Nat} (hv : v ≤ 999) : F_X12_in sh f S (I v) 1 99 = some (if v < 1 ∨ 99 < v then 0 else 1) := by
  unfold F_X12_in
  have q1 : (I (v : Int) < 1) = (v < 1) := I_ltN (b := 1) (by omega) (by omega)
  have q2 : ((99 : Int32) < I (v : Int)) = (99 < v) := I_ltN (a := 99) (by omega) (by omega)
  simp only [q1, q2]
  by_cases d1 : v < 1
  · rw [if_pos d1, if_pos (Or.inl d1)]
  · by_cases d2 : 99 < v
    · rw [if_neg d1, if_pos d2, if_pos (Or.inr d2)]
    · rw [if_neg d1, if_neg d2, if_neg (by omega)]
theorem r_two {what : Nat} (hw : what = 1 ∨ what = 2) (hT : ∀ i, -128 ≤ T i ∧ T i ≤ 127) (he : e ≤ 400) (hf : 1000 ≤ f) (hq : q = 95 ∨ 159 ≤ q) (ck : ckX9 sh q = true) (cx : ckX11 sh 106 = true) (h : rdR S q T e D k (bK D.2)) (hk : k.1 ≠ 5) : (match pTwo T e what D k with
    | .inl a => ∃ S', F_X12_readKinds sh f S 94 (I what) = some (.inr (106, S')) ∧ fR S S' q ∧ stp S' a
    | .inr a => ∃ S', F_X12_readKinds sh f S 94 (I what) = some (.inl S') ∧ fR S S' q ∧ rdR S' q T e a.1 a.2 (bK a.1.2)) := by
  have w0 : ¬ I (what : Int) = 0 := by
    rw [show (0 : Int32) = I ((0 : Nat) : Int) from rfl, I_eqN (by omega) (by omega)]; omega
  obtain ⟨S1, g1, g2, g3⟩ := r_advR (sh := sh) hT he hf hq h hk
  have A := r_new (sh := sh) hT he hf hq ck cx g2
  unfold F_X12_readKinds pTwo
  rw [g1, Option.bind_some]
  cases hp : pNew T e D (adv T e k) with
  | inl x =>
    rw [hp] at A
    obtain ⟨S2, a1, a2, a3⟩ := A
    rw [a1]
    exact ⟨S2, rfl, (fR.of9 g3).trans a2, a3⟩
  | inr x =>
    rw [hp] at A
    obtain ⟨S2, a1, a2, a4⟩ := A
    obtain ⟨x1, x2, x3⟩ := pNew_r hp
    have xK : bK x.1.2 = bK D.2 + 1 := by rw [x1]; rfl
    have f2 := (fR.of9 g3).trans a2
    have A2 := r_new (sh := sh) hT he hf hq ck cx a4
    simp only [a1, Option.bind_some, thr, bnd, if_neg w0]
    simp only [bindP]
    cases hp2 : pNew T e x.1 x.2 with
    | inl y =>
      rw [hp2] at A2
      obtain ⟨S3, b1, b2, b3⟩ := A2
      rw [b1]
      exact ⟨S3, rfl, f2.trans b2, b3⟩
    | inr y =>
      rw [hp2] at A2
      obtain ⟨S3, b1, b2, b4⟩ := A2
      obtain ⟨y1, y2, y3⟩ := pNew_r hp2
      have yK : bK y.1.2 = bK D.2 + 2 := by rw [y1]; show bK x.1.2 + 1 = _; omega
      have f3 := f2.trans b2
      have s := (r_sort b4).2.1
      have stop := fun w : Int32 => r_stop (f := f) (w := w) cx b4
      simp only [b1, Option.bind_some, xK, F_X12_readKinds_L21, s, bnd]
      try simp only [bindP]
      unfold pHeavy
      by_cases c : y.2.1 = 2
      · have v : sI S3 94 15 = I (tV y.2) := b4.2.2.2.1.2.2.2.2.2.2 c
        have b := b4.2.2.2.2.2.2.2.2.1 c
        simp only [if_pos c, v, r_in b, Option.bind_some]
        by_cases d : tV y.2 < 1 ∨ 99 < tV y.2
        · simp only [if_pos d, if_true, stop, Option.bind_some, cx, not_true_eq_false, if_false]
          exact ⟨_, rfl, f3.trans thS_fR, thS_stp⟩
        · obtain ⟨S4, z1, z2, z3⟩ := r_advR (sh := sh) hT he hf hq b4 (by omega)
          have f4 := f3.trans (fR.of9 z3)
          have N := r_int (sh := sh) (most := 9) (zok := true) hT he hf hq cx (by omega) z2
          simp only [if_neg d, if_neg i10, z1, Option.bind_some]
          try simp only [bindP]
          cases hi : pInt T e 9 true (adv T e y.2) with
          | inl w =>
            rw [hi] at N
            obtain ⟨S5, n1, n2, n3⟩ := N
            have n1' : F_X12_readInt sh f S4 94 9 0 = some (.inr (106, S5)) := n1
            rw [n1', if_neg w0]
            exact ⟨S5, rfl, f4.trans n2, n3⟩
          | inr w =>
            rw [hi] at N
            obtain ⟨S5, n1, n2, n3⟩ := N
            have n1' : F_X12_readInt sh f S4 94 9 0 = some (.inl (I w.1, S5)) := n1
            have st1 := r_step (sh := sh) (f := f) (n := f - 1) (i := bK D.2) (a := bK D.2) (b := bK D.2 + 1) (p1 := I what) (h := I (tV y.2)) (m := w.1) (S := S5) ck n3.2.2.1 (by omega) (by omega) (by omega) (by omega)
            rw [if_pos rfl, if_pos (Nat.le_refl _), show ((bK D.2 : Nat) : Int) + ((bK D.2 + 1 : Nat) : Int) - (bK D.2 : Nat) = ((bK D.2 + 1 : Nat) : Int) by omega, show f - 1 + 1 = f by omega, show f - 1 = (f - 2) + 1 by omega] at st1
            have R1 := kR_rd (foe := bK D.2 + 1) (sort := what) (heavy := tV y.2) (mark := w.1) (se := I 0) hq (by rw [if_neg (by omega)]) n3
            have st2 := r_step (sh := sh) (f := f) (n := f - 2) (i := bK D.2 + 1) (a := bK D.2) (b := bK D.2 + 1) (p1 := I what) (h := I (tV y.2)) (m := w.1) (S := kR S5 q (bK D.2) (I what) (I (tV y.2)) (I w.1) (I ((bK D.2 + 1 : Nat) : Int)) (I 0)) ck R1.2.2.1 (by omega) (by omega) (by omega) (by omega)
            rw [if_neg (by omega), if_neg (by omega), show ((bK D.2 : Nat) : Int) + ((bK D.2 + 1 : Nat) : Int) - ((bK D.2 + 1 : Nat) : Int) = (bK D.2 : Nat) by omega, show f - 2 = (f - 3) + 1 by omega, r_kend (n := f - 3) (i := bK D.2 + 1 + 1) (b := bK D.2 + 1) (by omega) (by omega) (by omega)] at st2
            have st : F_X12_readKinds_L85 sh f 94 (I what) f S5 (I (bK D.2)) (I ((bK D.2 + 1 : Nat) : Int)) (I (tV y.2)) (I w.1) (I (bK D.2)) = some (.inl (kR (kR S5 q (bK D.2) (I what) (I (tV y.2)) (I w.1) (I ((bK D.2 + 1 : Nat) : Int)) (I 0)) q (bK D.2 + 1) (I what) (I (tV y.2)) (I (-w.1)) (I (bK D.2)) (I 1))) := by
              rw [st1, show f - 2 = (f - 3) + 1 by omega]
              exact st2
            have R2 := kR_rd (foe := bK D.2) (sort := what) (heavy := tV y.2) (mark := -w.1) (se := I 1) hq (by rw [if_pos (by omega)]) R1
            simp only [n1', if_neg w0, Option.bind_some, thr, st]
            refine ⟨_, rfl, ((f4.trans (fR.of9 n2)).trans kR_fR).trans kR_fR, ?_⟩
            show rdR _ q T e (y.1.1, dKind (dKind y.1.2 (bK y.1.2 - 2) (bK y.1.2 - 1) what (tV y.2) w.1) (bK y.1.2 - 1) (bK y.1.2 - 2) what (tV y.2) (-w.1)) w.2 (bK y.1.2)
            rw [yK]
            exact R2
      · simp only [if_neg c, stop, Option.bind_some, cx, not_true_eq_false, if_false]
        exact ⟨_, rfl, f3.trans thS_fR, thS_stp⟩
end R73
