/-! MARKS of the layout: masks of half legs, second names, partners, legs alike. -/
def yHa (Y : Ly) (i : Nat) : Bool := bS (yB Y) (yK Y i) == 2
def ySe (Y : Ly) (i : Nat) : Bool := decide (bF (yB Y) (yK Y i) < yK Y i)
def yAl (Y : Ly) (i j : Nat) : Bool := yF Y j == yF Y i
def yMj (Y : Ly) (i j : Nat) : Bool := decide (j ≠ i ∧ yK Y j = bF (yB Y) (yK Y i) ∧ (yN Y ≤ i ∨ yN Y ≤ j))
theorem mkb_s1 {p : Nat → Bool} {m : Nat} (h : p m = true) : mkb p (m + 1) = mkb p m ||| 2 ^ m := by rw [mkb, if_pos h]
theorem mkb_s0 {p : Nat → Bool} {m : Nat} (h : ¬ p m = true) : mkb p (m + 1) = mkb p m := by rw [mkb, if_neg h, Nat.or_zero]
theorem I_or2 {p : Nat → Bool} {m : Nat} (hm : m < 30) (h : p m = true) : I (mkb p m : Int) ||| ((1 : Int32) <<< (I m &&& 31)) = I (mkb p (m + 1) : Int) := by
  have l := mkb_lt p m
  have q : 2 ^ m ≤ 2 ^ 29 := Nat.pow_le_pow_right (by omega) (by omega)
  rw [one_shl (by omega), I_or (by omega) (by omega), mkb_s1 h]
/-- what the marks of the leg i are, relative to S -/
def mkR (S T : St) (t i x y : Nat) : Prop := sA T (t + 4) i = I x ∧ sA T (t + 5) i = I y ∧ (∀ i', i' ≠ i → sA T (t + 4) i' = sA S (t + 4) i' ∧ sA T (t + 5) i' = sA S (t + 5) i') ∧ ∀ c, c ≠ t + 4 → c ≠ t + 5 → Sm S T c
theorem mkR_4 {S T : St} {t i x y x' : Nat} (h : mkR S T t i x y) : mkR S (uA T (t + 4) i (I x')) t i x' y := by
  obtain ⟨h1, h2, h3, h4⟩ := h
  refine ⟨by rw [sA_uA, if_pos rfl, up1_self], by rw [sA_row _ _ _ (by omega)]; exact h2, fun i' hi => ?_, fun c a b => (h4 c a b).trans (by repeat' (first | exact Sm.rfl | (refine Sm.uI ?_ (by omega)) | (refine Sm.uA ?_ (by omega)) | (refine Sm.uJ ?_ (by omega)) | (refine Sm.uL ?_ (by omega)) | (refine Sm.uR ?_ (by omega))))⟩
  rw [sA_uA, if_pos rfl, up1_ne _ _ hi, sA_row _ _ _ (by omega)]
  exact h3 i' hi
theorem mkR_5 {S T : St} {t i x y y' : Nat} (h : mkR S T t i x y) : mkR S (uA T (t + 5) i (I y')) t i x y' := by
  obtain ⟨h1, h2, h3, h4⟩ := h
  refine ⟨by rw [sA_row _ _ _ (by omega)]; exact h1, by rw [sA_uA, if_pos rfl, up1_self], fun i' hi => ?_, fun c a b => (h4 c a b).trans (by repeat' (first | exact Sm.rfl | (refine Sm.uI ?_ (by omega)) | (refine Sm.uA ?_ (by omega)) | (refine Sm.uJ ?_ (by omega)) | (refine Sm.uL ?_ (by omega)) | (refine Sm.uR ?_ (by omega))))⟩
  rw [sA_row _ _ _ (show t + 4 ≠ t + 5 by omega), sA_uA, if_pos rfl, up1_ne _ _ hi]
  exact h3 i' hi
section F9f
variable {sh : List Sh} {f : Nat} {Y : Ly} {b t : Nat}
theorem c_155 {S T : St} {i j y : Nat} {l4 : Int32} (k98 : St → Int32 → Int32 → Int32 → Option St) (hi : i < 12) (hj : j < 12) (h : mkR S T t i (mkb (yAl Y i) j) y) (f12 : ∀ i, i < 12 → yF Y i < 12) (a3 : sA S (t + 3) i = I (yF Y i)) (a3' : sA S (t + 3) j = I (yF Y j)) : ∃ T', F_X4_markKinds_L155 sh f t b k98 T (I i) l4 (I j) = k98 T' (I i) l4 (I ((j + 1 : Nat) : Int)) ∧ mkR S T' t i (mkb (yAl Y i) (j + 1)) y := by
  have jcl : (I (j : Int)).toNatClampNeg = j := I_clN (by omega)
  have icl : (I (i : Int)).toNatClampNeg = i := I_clN (by omega)
  have j0 : ¬ (I (j : Int) < 0 ∨ 12 ≤ j) := by
    rw [show (0 : Int32) = I 0 from rfl, I_lt (by omega) (by omega)]; omega
  have i0 : ¬ (I (i : Int) < 0 ∨ 12 ≤ i) := by
    rw [show (0 : Int32) = I 0 from rfl, I_lt (by omega) (by omega)]; omega
  have nx : I (j : Int) + 1 = I ((j + 1 : Nat) : Int) := by rw [show (1 : Int32) = I 1 from rfl, I_add]; rfl
  have s3 := h.2.2.2 (t + 3) (by omega) (by omega)
  have q : (I (yF Y j : Int) = I (yF Y i)) = (yF Y j = yF Y i) := I_eqN (by have := f12 j hj; omega) (by have := f12 i hi; omega)
  unfold F_X4_markKinds_L155
  simp only [jcl, icl, if_neg j0, if_neg i0, s3.A, a3, a3', q, bnd, nx]
  by_cases c : yF Y j = yF Y i
  · have p : yAl Y i j = true := beq_iff_eq.mpr c
    refine ⟨uA T (t + 4) i (I (mkb (yAl Y i) (j + 1))), ?_, mkR_4 h⟩
    rw [if_pos c, h.1, I_or2 (by omega) p]
  · have p : ¬ yAl Y i j = true := fun e => c (beq_iff_eq.mp e)
    refine ⟨T, by rw [if_neg c], ?_⟩
    rw [mkb_s0 p]
    exact h
theorem c_142 {S T : St} {i j : Nat} {l4 : Int32} (k98 : St → Int32 → Int32 → Int32 → Option St) (hi : i < 12) (hj : j < 12) (h : mkR S T t i (mkb (yAl Y i) j) (mkb (yMj Y i) j)) (f12 : ∀ i, i < 12 → yF Y i < 12) (a3 : sA S (t + 3) i = I (yF Y i)) (a3' : sA S (t + 3) j = I (yF Y j)) (p : yMj Y i j = true) : ∃ T', F_X4_markKinds_L142 sh f t b k98 T (I i) l4 (I j) = k98 T' (I i) l4 (I ((j + 1 : Nat) : Int)) ∧ mkR S T' t i (mkb (yAl Y i) (j + 1)) (mkb (yMj Y i) (j + 1)) := by
  have icl : (I (i : Int)).toNatClampNeg = i := I_clN (by omega)
  have i0 : ¬ (I (i : Int) < 0 ∨ 12 ≤ i) := by
    rw [show (0 : Int32) = I 0 from rfl, I_lt (by omega) (by omega)]; omega
  unfold F_X4_markKinds_L142
  simp only [icl, if_neg i0, h.2.1, I_or2 (show j < 30 by omega) p, bnd]
  exact c_155 k98 hi hj (mkR_5 h) f12 a3 a3'
theorem c_mkIn {S : St} {i : Nat} (k12 : St → Int32 → Option St) (hi : i < yL Y) (L12 : yL Y ≤ 12) (k8 : ∀ i, yK Y i < 8) (fo8 : bF (yB Y) (yK Y i) < 8) (f12 : ∀ i, i < 12 → yF Y i < 12) (n12 : yN Y ≤ 12) (s8 : sI S t 8 = I (yN Y)) (s9 : sI S t 9 = I (yL Y)) (ar : ∀ j, j < yL Y → sA S (t + 1) j = I (yK Y j) ∧ sA S (t + 3) j = I (yF Y j)) : ∀ (d j nf : Nat) (T : St), j + d = yL Y → d < nf → mkR S T t i (mkb (yAl Y i) j) (mkb (yMj Y i) j) → ∃ T', F_X4_markKinds_L98 sh f t b k12 nf T (I i) (I (bF (yB Y) (yK Y i))) (I j) = k12 T' (I ((i + 1 : Nat) : Int)) ∧ mkR S T' t i (mkb (yAl Y i) (yL Y)) (mkb (yMj Y i) (yL Y)) := by
  intro d
  induction d with
  | zero =>
    intro j nf T h1 h2 h
    obtain ⟨nf, rfl⟩ : ∃ e, nf = e + 1 := ⟨nf - 1, by omega⟩
    have : j = yL Y := by omega
    subst this
    have st := h.2.2.2 t (by omega) (by omega)
    have nx : I (i : Int) + 1 = I ((i + 1 : Nat) : Int) := by rw [show (1 : Int32) = I 1 from rfl, I_add]; rfl
    refine ⟨T, ?_, h⟩
    rw [F_X4_markKinds_L98, st.I, s9, if_pos (by rw [I_leN (by omega) (by omega)]; omega)]
    simp only [bnd, nx]
  | succ d ih =>
    intro j nf T h1 h2 h
    obtain ⟨nf, rfl⟩ : ∃ e, nf = e + 1 := ⟨nf - 1, by omega⟩
    have st := h.2.2.2 t (by omega) (by omega)
    have st1 := h.2.2.2 (t + 1) (by omega) (by omega)
    have c1 : ¬ I (yL Y : Int) ≤ I j := by rw [I_leN (by omega) (by omega)]; omega
    have jcl : (I (j : Int)).toNatClampNeg = j := I_clN (by omega)
    have j0 : ¬ (I (j : Int) < 0 ∨ 12 ≤ j) := by
      rw [show (0 : Int32) = I 0 from rfl, I_lt (by omega) (by omega)]; omega
    have q1 : (I (j : Int) = I i) = (j = i) := I_eqN (by omega) (by omega)
    have q2 : (I (yK Y j : Int) = I (bF (yB Y) (yK Y i))) = (yK Y j = bF (yB Y) (yK Y i)) := I_eqN (by have := k8 j; omega) (by omega)
    have q3 : (I (yN Y : Int) ≤ I i) = (yN Y ≤ i) := I_leN (by omega) (by omega)
    have q4 : (I (j : Int) < I (yN Y)) = (j < yN Y) := I_ltN (by omega) (by omega)
    obtain ⟨b1, b3⟩ := ar j (by omega)
    have a3 := (ar i hi).2
    have no : ¬ yMj Y i j = true → ∃ T', F_X4_markKinds_L155 sh f t b (F_X4_markKinds_L98 sh f t b k12 nf) T (I i) (I (bF (yB Y) (yK Y i))) (I j) = k12 T' (I ((i + 1 : Nat) : Int)) ∧ mkR S T' t i (mkb (yAl Y i) (yL Y)) (mkb (yMj Y i) (yL Y)) := by
      intro p
      obtain ⟨T1, e1, g1⟩ := c_155 (sh := sh) (f := f) (b := b) (l4 := I (bF (yB Y) (yK Y i))) (F_X4_markKinds_L98 sh f t b k12 nf) (by omega) (show j < 12 by omega) h f12 a3 b3
      rw [← mkb_s0 p] at g1
      obtain ⟨T2, e2, g2⟩ := ih (j + 1) nf T1 (by omega) (by omega) g1
      exact ⟨T2, e1.trans e2, g2⟩
    have yes : yMj Y i j = true → ∃ T', F_X4_markKinds_L142 sh f t b (F_X4_markKinds_L98 sh f t b k12 nf) T (I i) (I (bF (yB Y) (yK Y i))) (I j) = k12 T' (I ((i + 1 : Nat) : Int)) ∧ mkR S T' t i (mkb (yAl Y i) (yL Y)) (mkb (yMj Y i) (yL Y)) := by
      intro p
      obtain ⟨T1, e1, g1⟩ := c_142 (sh := sh) (f := f) (b := b) (l4 := I (bF (yB Y) (yK Y i))) (F_X4_markKinds_L98 sh f t b k12 nf) (by omega) (show j < 12 by omega) h f12 a3 b3 p
      obtain ⟨T2, e2, g2⟩ := ih (j + 1) nf T1 (by omega) (by omega) g1
      exact ⟨T2, e1.trans e2, g2⟩
    have mj : (yMj Y i j = true) = (j ≠ i ∧ yK Y j = bF (yB Y) (yK Y i) ∧ (yN Y ≤ i ∨ yN Y ≤ j)) := by
      unfold yMj
      rw [decide_eq_true_eq]
    rw [mj] at no yes
    rw [F_X4_markKinds_L98, st.I, s9, if_neg c1]
    simp only [q1, jcl, if_neg j0, st1.A, b1, q2, st.I, s8, q3, q4]
    by_cases d1 : j = i
    · rw [if_pos d1]; exact no (fun h => h.1 d1)
    · rw [if_neg d1]
      by_cases d2 : yK Y j = bF (yB Y) (yK Y i)
      · rw [if_pos d2]
        by_cases d3 : yN Y ≤ i
        · rw [if_pos d3]; exact yes ⟨d1, d2, Or.inl d3⟩
        · rw [if_neg d3]
          by_cases d4 : j < yN Y
          · rw [if_pos d4]; exact no (fun h => by omega)
          · rw [if_neg d4]; exact yes ⟨d1, d2, Or.inr (by omega)⟩
      · rw [if_neg d2]; exact no (fun h => d2 h.2.1)
/-- the marks of the first i legs -/
def mkS (S T : St) (t : Nat) (Y : Ly) (i : Nat) : Prop := sI T t 10 = I (mkb (yHa Y) i) ∧ sI T t 11 = I (mkb (ySe Y) i) ∧ (∀ j, j ≠ 10 → j ≠ 11 → sI T t j = sI S t j) ∧ (∀ j, j < i → sA T (t + 4) j = I (mkb (yAl Y j) (yL Y)) ∧ sA T (t + 5) j = I (mkb (yMj Y j) (yL Y))) ∧ ∀ c, c ≠ t → c ≠ t + 4 → c ≠ t + 5 → Sm S T c
theorem c_mark (hf : 1000 ≤ f) (S : St) (h : bkC S b (yB Y)) (hbt : b + 9 < t ∨ t + 7 < b) (ok : bkOk (yB Y)) (L12 : yL Y ≤ 12) (kk : ∀ i, yK Y i < bK (yB Y)) (f12 : ∀ i, i < 12 → yF Y i < 12) (n12 : yN Y ≤ 12) (s8 : sI S t 8 = I (yN Y)) (s9 : sI S t 9 = I (yL Y)) (ar : ∀ j, j < yL Y → sA S (t + 1) j = I (yK Y j) ∧ sA S (t + 3) j = I (yF Y j)) : ∃ S', F_X4_markKinds sh f S t b = some S' ∧ mkS S S' t Y (yL Y) := by
  have k8 := ok.1.1
  have key : ∀ (d i nf : Nat) (T : St), i + d = yL Y → d < nf → mkS S T t Y i → ∃ S', F_X4_markKinds_L12 sh f t b nf T (I i) = some S' ∧ mkS S S' t Y (yL Y) := by
    intro d
    induction d with
    | zero =>
      intro i nf T h1 h2 hT
      obtain ⟨nf, rfl⟩ : ∃ e, nf = e + 1 := ⟨nf - 1, by omega⟩
      have : i = yL Y := by omega
      subst this
      refine ⟨T, ?_, hT⟩
      rw [F_X4_markKinds_L12, hT.2.2.1 9 (by omega) (by omega), s9, if_pos (by rw [I_leN (by omega) (by omega)]; omega)]
    | succ d ih =>
      intro i nf T h1 h2 hT
      obtain ⟨nf, rfl⟩ : ∃ e, nf = e + 1 := ⟨nf - 1, by omega⟩
      obtain ⟨a1, a2, a3, a4, a5⟩ := hT
      have c1 : ¬ I (yL Y : Int) ≤ I i := by rw [I_leN (by omega) (by omega)]; omega
      have icl : (I (i : Int)).toNatClampNeg = i := I_clN (by omega)
      have i0 : ¬ (I (i : Int) < 0 ∨ 12 ≤ i) := by
        rw [show (0 : Int32) = I 0 from rfl, I_lt (by omega) (by omega)]; omega
      have st1 := a5 (t + 1) (by omega) (by omega) (by omega)
      have st3 := a5 (t + 3) (by omega) (by omega) (by omega)
      have hT' : bkC T b (yB Y) := bkC_sm h (fun c x y => a5 c (by omega) (by omega) (by omega))
      have ki := kk i
      have kcl : (I (yK Y i : Int)).toNatClampNeg = yK Y i := I_clN (by omega)
      have k0 : ¬ (I (yK Y i : Int) < 0 ∨ 8 ≤ yK Y i) := by
        rw [show (0 : Int32) = I 0 from rfl, I_lt (by omega) (by omega)]; omega
      have fo := (hT'.2.2.1 (yK Y i) ki).1
      have fl := (ok.1.2 (yK Y i) ki).1
      have hh := c_isHalf (sh := sh) (f := f) (i := yK Y i) (B := yB Y) (u := bK (yB Y)) (S := T) (b := b) hT' k8 (Nat.le_refl _) (fun i hi => (ok.1.2 i hi).2.2.2.2.2.2.2.2.1) ki
      have q : (I (yK Y i : Int) ≤ I (bF (yB Y) (yK Y i))) = (yK Y i ≤ bF (yB Y) (yK Y i)) := I_leN (by omega) (by omega)
      have lh := mkb_lt (yHa Y) i
      have l2 : 2 ^ i ≤ 2 ^ 12 := Nat.pow_le_pow_right (by omega) (by omega)
      have ls := mkb_lt (ySe Y) i
      have or0 : ∀ m : Nat, m < 2147483648 → I (m : Int) ||| 0 = I (m : Int) := fun m hm => by
        rw [show (0 : Int32) = I ((0 : Nat) : Int) from rfl, I_or hm (by omega), Nat.or_zero]
      have goal : ∀ v : Int32, sI T t 10 ||| v = I (mkb (yHa Y) (i + 1)) → ∃ S', F_X4_markKinds_L55 sh f t b (F_X4_markKinds_L12 sh f t b nf) T (I i) (I (yK Y i)) (I (bF (yB Y) (yK Y i))) t (sI T t 10) v = some S' ∧ mkS S S' t Y (yL Y) := by
        intro v hv
        have fin : ∀ w : Int32, w = I (mkb (ySe Y) (i + 1)) → ∃ S', F_X4_markKinds_L98 sh f t b (F_X4_markKinds_L12 sh f t b nf) f (uA (uA (uI (uI T t 10 (I (mkb (yHa Y) (i + 1)))) t 11 w) (t + 5) i 0) (t + 4) i 0) (I i) (I (bF (yB Y) (yK Y i))) 0 = some S' ∧ mkS S S' t Y (yL Y) := by
          intro w hw
          generalize hU : uA (uA (uI (uI T t 10 (I (mkb (yHa Y) (i + 1)))) t 11 w) (t + 5) i 0) (t + 4) i 0 = U
          have u1 : ∀ j, j ≠ 10 → j ≠ 11 → sI U t j = sI S t j := by
            intro j x y
            rw [← hU]
            show sI (uI (uI T t 10 _) t 11 w) t j = _
            rw [sI_ne _ _ _ y, sI_ne _ _ _ x]
            exact a3 j x y
          have u2 : sI U t 10 = I (mkb (yHa Y) (i + 1)) := by
            rw [← hU]
            show sI (uI (uI T t 10 _) t 11 w) t 10 = _
            rw [sI_ne _ _ _ (by omega), sI_self]
          have u3 : sI U t 11 = I (mkb (ySe Y) (i + 1)) := by
            rw [← hU]
            show sI (uI (uI T t 10 _) t 11 w) t 11 = _
            rw [sI_self, hw]
          have u4 : ∀ j, sA U (t + 4) j = up1 (sA T (t + 4)) i 0 j := by
            intro j
            rw [← hU, sA_uA, if_pos rfl, sA_row _ _ _ (by omega)]
            rfl
          have u5 : ∀ j, sA U (t + 5) j = up1 (sA T (t + 5)) i 0 j := by
            intro j
            rw [← hU, sA_row _ _ _ (by omega), sA_uA, if_pos rfl]
            rfl
          have u6 : ∀ c, c ≠ t → c ≠ t + 4 → c ≠ t + 5 → Sm S U c := by
            intro c x y z
            rw [← hU]
            exact (a5 c x y z).trans (by repeat' (first | exact Sm.rfl | (refine Sm.uI ?_ (by omega)) | (refine Sm.uA ?_ (by omega)) | (refine Sm.uJ ?_ (by omega)) | (refine Sm.uL ?_ (by omega)) | (refine Sm.uR ?_ (by omega))))
          have R : mkR U U t i (mkb (yAl Y i) 0) (mkb (yMj Y i) 0) := ⟨by rw [u4, up1_self]; rfl, by rw [u5, up1_self]; rfl, fun _ _ => ⟨rfl, rfl⟩, fun _ _ _ => Sm.rfl⟩
          obtain ⟨V, e1, v1, v2, v3, v4⟩ := c_mkIn (sh := sh) (f := f) (b := b) (Y := Y) (F_X4_markKinds_L12 sh f t b nf) (show i < yL Y by omega) L12 (fun j => by have := kk j; omega) (by omega) f12 n12 ((u1 8 (by omega) (by omega)).trans s8) ((u1 9 (by omega) (by omega)).trans s9) (fun j hj => by
            rw [(u6 (t + 1) (by omega) (by omega) (by omega)).A, (u6 (t + 3) (by omega) (by omega) (by omega)).A]
            exact ar j hj) (yL Y) 0 f U (by omega) (by omega) R
          have vt := v4 t (by omega) (by omega)
          have MV : mkS S V t Y (i + 1) := by
            refine ⟨(vt.I 10).trans u2, (vt.I 11).trans u3, fun j x y => (vt.I j).trans (u1 j x y), fun j hj => ?_, fun c x y z => (u6 c x y z).trans (v4 c y z)⟩
            by_cases e : j = i
            · subst e; exact ⟨v1, v2⟩
            · rw [(v3 j e).1, (v3 j e).2, u4, u5, up1_ne _ _ e, up1_ne _ _ e]
              exact a4 j (by omega)
          obtain ⟨S', g1, g2⟩ := ih (i + 1) nf V (by omega) (by omega) MV
          exact ⟨S', e1.trans g1, g2⟩
        unfold F_X4_markKinds_L55
        have s11 : sI (uI T t 10 (I (mkb (yHa Y) (i + 1)))) t 11 = I (mkb (ySe Y) i) := by rw [sI_ne _ _ _ (by omega)]; exact a2
        simp only [bnd, hv, q, icl, if_neg i0, s11]
        by_cases c : yK Y i ≤ bF (yB Y) (yK Y i)
        · rw [if_pos c, or0 _ (by omega)]
          apply fin
          rw [mkb_s0]
          unfold ySe
          rw [decide_eq_true_eq]
          omega
        · rw [if_neg c, I_or2 (by omega) (by unfold ySe; rw [decide_eq_true_eq]; omega)]
          exact fin _ rfl
      rw [F_X4_markKinds_L12, a3 9 (by omega) (by omega), s9, if_neg c1]
      simp only [icl, if_neg i0, st1.A, (ar i (by omega)).1, bnd, kcl, if_neg k0, fo, hh, Option.bind_some]
      by_cases c : bS (yB Y) (yK Y i) = 2
      · rw [if_pos c, if_neg (by decide)]
        apply goal
        rw [a1, I_or2 (by omega) (by unfold yHa; exact beq_iff_eq.mpr c)]
      · rw [if_neg c, if_pos rfl]
        apply goal
        rw [a1, or0 _ (by omega), mkb_s0]
        unfold yHa
        exact fun e => c (beq_iff_eq.mp e)
  obtain ⟨S', g1, g2⟩ := key (yL Y) 0 f (uI (uI S t 10 0) t 11 0) (by omega) (by omega) ⟨by rw [sI_ne _ _ _ (by omega), sI_self]; rfl, by rw [sI_self]; rfl, fun j x y => by rw [sI_ne _ _ _ y, sI_ne _ _ _ x], fun j hj => by omega, fun c x y z => (by repeat' (first | exact Sm.rfl | (refine Sm.uI ?_ (by omega)) | (refine Sm.uA ?_ (by omega)) | (refine Sm.uJ ?_ (by omega)) | (refine Sm.uL ?_ (by omega)) | (refine Sm.uR ?_ (by omega))))⟩
  exact ⟨S', g1, g2⟩
end F9f
