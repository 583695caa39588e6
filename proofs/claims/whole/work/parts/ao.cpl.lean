/-! THE REFERENCE keeps its list. -/
section AOa
variable {sh : List Sh} {f : Nat} {U : St}
def cpE (U W : St) (j : Nat) : Prop := sL W 117 j = sL U 124 j ∧ sA W 115 j = sA U 122 j ∧ sA W 116 j = sA U 123 j ∧ ∀ p, p < 3 → sA W 114 (3 * j + p) = sA U 121 (3 * j + p)
def cpF (U W : St) : Prop := ∀ x, x ≠ 114 → x ≠ 115 → x ≠ 116 → x ≠ 117 → Sm U W x
theorem r_dr222 {x : Int32} {i : Nat} (hi : i < 200) (k155 : St → Int32 → Option (Int32 × St)) : ∀ (d p nf : Nat) (W : St), p + d = 3 → d < nf → cpF U W → (∀ a, a < p → sA W 114 (3 * i + a) = sA U 121 (3 * i + a)) → ∃ W', F_X12_drawings_L222 sh f 94 x k155 nf W (I i) (I p) = k155 W' (I ((i + 1 : Nat) : Int)) ∧ cpF U W' ∧ (∀ a, a < 3 → sA W' 114 (3 * i + a) = sA U 121 (3 * i + a)) ∧ (∀ c, (c < 3 * i ∨ 3 * i + 3 ≤ c) → sA W' 114 c = sA W 114 c) ∧ ∀ x, x ≠ 114 → Sm W W' x := by
  intro d
  induction d with
  | zero =>
    intro p nf W h1 h2 fW a
    obtain ⟨nf, rfl⟩ : ∃ e, nf = e + 1 := ⟨nf - 1, by omega⟩
    have : p = 3 := by omega
    subst this
    rw [F_X12_drawings_L222, if_pos (by decide)]
    simp only [bnd, I_suc]
    exact ⟨W, rfl, fW, a, fun _ _ => rfl, fun _ _ => Sm.rfl⟩
  | succ d ih =>
    intro p nf W h1 h2 fW a
    obtain ⟨nf, rfl⟩ : ∃ e, nf = e + 1 := ⟨nf - 1, by omega⟩
    have ix : (3 : Int32) * I (i : Int) + I (p : Int) = I ((3 * i + p : Nat) : Int) := by
      rw [show (3 : Int32) = I 3 from rfl, I_mul, I_add]; rfl
    have nb : ¬ (I ((3 * i + p : Nat) : Int) < 0 ∨ 600 ≤ 3 * i + p) := I_bnd (by omega) (by omega)
    rw [F_X12_drawings_L222, if_neg (by rw [show (3 : Int32) = I ((3 : Nat) : Int) from rfl, I_leN (by omega) (by omega)]; omega), ix, I_clN (by omega), if_neg nb, if_neg nb]
    have e : sA W (94 + 24 + 3) (3 * i + p) = sA U 121 (3 * i + p) := (fW 121 (by omega) (by omega) (by omega) (by omega)).A _
    rw [e]
    simp only [bnd, I_suc]
    obtain ⟨W', w0, w1, w2, w3, w4⟩ := ih (p + 1) nf (uA W 114 (3 * i + p) (sA U 121 (3 * i + p))) (by omega) (by omega) (fun y a b c d => (fW y a b c d).trans (by repeat' (first | exact Sm.rfl | (refine Sm.uI ?_ (by omega)) | (refine Sm.uA ?_ (by omega)) | (refine Sm.uJ ?_ (by omega)) | (refine Sm.uL ?_ (by omega)) | (refine Sm.uR ?_ (by omega))))) (fun b hb => by
      rw [sA_uA, if_pos rfl, up1_if]
      by_cases c : b = p
      · rw [if_pos (by omega), c]
      · rw [if_neg (by omega)]
        exact a b (by omega))
    refine ⟨W', w0, w1, w2, fun c hc => ?_, fun y hy => (show Sm W _ y from (by repeat' (first | exact Sm.rfl | (refine Sm.uI ?_ (by omega)) | (refine Sm.uA ?_ (by omega)) | (refine Sm.uJ ?_ (by omega)) | (refine Sm.uL ?_ (by omega)) | (refine Sm.uR ?_ (by omega))))).trans (w4 y hy)⟩
    rw [w3 c hc, sA_uA, if_pos rfl, up1_ne _ _ (by omega)]
theorem r_dr155 {x : Int32} {m : Nat} (hf : 1000 ≤ f) (hm : m ≤ 200) (h0 : sI U 118 0 = I m) : ∀ (d i nf : Nat) (W : St), i + d = m → d < nf → cpF U W → (∀ j, j < i → cpE U W j) → ∃ W', F_X12_drawings_L155 sh f 94 x nf W (I i) = some (sI U 111 0, uI (uI (uI (uI W' 94 18 1) 94 1 0) 94 2 (-1)) 94 4 (-1)) ∧ cpF U W' ∧ ∀ j, j < m → cpE U W' j := by
  intro d
  induction d with
  | zero =>
    intro i nf W h1 h2 fW a
    obtain ⟨nf, rfl⟩ : ∃ e, nf = e + 1 := ⟨nf - 1, by omega⟩
    have : i = m := by omega
    subst this
    have e : sI W (94 + 24) 0 = I i := ((fW 118 (by omega) (by omega) (by omega) (by omega)).I 0).trans h0
    have e2 : sI (uI W 94 18 1) (94 + 17) 0 = sI U 111 0 := by
      rw [sI_row _ _ _ (by omega)]
      exact (fW 111 (by omega) (by omega) (by omega) (by omega)).I 0
    rw [F_X12_drawings_L155, e, if_pos (by rw [I_leN (by omega) (by omega)]; omega)]
    simp only [bnd, F_X12_done, Option.bind_some, e2]
    exact ⟨W, rfl, fW, a⟩
  | succ d ih =>
    intro i nf W h1 h2 fW a
    obtain ⟨nf, rfl⟩ : ∃ e, nf = e + 1 := ⟨nf - 1, by omega⟩
    have e : sI W (94 + 24) 0 = I m := ((fW 118 (by omega) (by omega) (by omega) (by omega)).I 0).trans h0
    have nb : ¬ (I (i : Int) < 0 ∨ 200 ≤ i) := I_bnd (by omega) (by omega)
    rw [F_X12_drawings_L155, e, if_neg (by rw [I_leN (by omega) (by omega)]; omega), I_clN (by omega)]
    simp only [if_neg nb, bnd]
    have c1 : sL W (94 + 24 + 6) i = sL U 124 i := (fW 124 (by omega) (by omega) (by omega) (by omega)).L i
    have c2 : sA (uL W (94 + 17 + 6) i (sL U 124 i)) (94 + 24 + 4) i = sA U 122 i := (fW 122 (by omega) (by omega) (by omega) (by omega)).A i
    have c3 : sA (uA (uL W (94 + 17 + 6) i (sL U 124 i)) (94 + 17 + 4) i (sA U 122 i)) (94 + 24 + 5) i = sA U 123 i := by
      rw [sA_row _ _ _ (by omega)]
      exact (fW 123 (by omega) (by omega) (by omega) (by omega)).A i
    rw [c1, c2, c3]
    generalize hT : uA (uA (uL W (94 + 17 + 6) i (sL U 124 i)) (94 + 17 + 4) i (sA U 122 i)) (94 + 17 + 5) i (sA U 123 i) = T
    have WT : ∀ y, y ≠ 115 → y ≠ 116 → y ≠ 117 → Sm W T y := by
      intro y a b c
      rw [← hT]
      exact (by repeat' (first | exact Sm.rfl | (refine Sm.uI ?_ (by omega)) | (refine Sm.uA ?_ (by omega)) | (refine Sm.uJ ?_ (by omega)) | (refine Sm.uL ?_ (by omega)) | (refine Sm.uR ?_ (by omega))))
    have fT : cpF U T := fun y a b c d => (fW y a b c d).trans (WT y b c d)
    have t117 : ∀ j, sL T 117 j = up1 (sL W 117) i (sL U 124 i) j := by
      intro j
      rw [← hT]
      show sL (uL W (94 + 17 + 6) i (sL U 124 i)) 117 j = _
      rw [sL_uL, if_pos rfl]
    have t115 : ∀ j, sA T 115 j = up1 (sA W 115) i (sA U 122 i) j := by
      intro j
      rw [← hT, sA_row _ _ _ (by omega), sA_uA, if_pos rfl]
      rfl
    have t116 : ∀ j, sA T 116 j = up1 (sA W 116) i (sA U 123 i) j := by
      intro j
      rw [← hT, sA_uA, if_pos rfl, sA_row _ _ _ (by omega)]
      rfl
    obtain ⟨V, v0, v1, v2, v3, v4⟩ := r_dr222 (sh := sh) (f := f) (U := U) (x := x) (show i < 200 by omega) (F_X12_drawings_L155 sh f 94 x nf) 3 0 f T (by omega) (by omega) fT (fun a ha => by omega)
    have v0' : F_X12_drawings_L222 sh f 94 x (F_X12_drawings_L155 sh f 94 x nf) f T (I i) 0 = F_X12_drawings_L155 sh f 94 x nf V (I ((i + 1 : Nat) : Int)) := v0
    rw [v0']
    refine ih (i + 1) nf V (by omega) (by omega) v1 (fun j hj => ?_)
    by_cases c : j = i
    · subst c
      exact ⟨by rw [(v4 117 (by omega)).L, t117, up1_self], by rw [(v4 115 (by omega)).A, t115, up1_self], by rw [(v4 116 (by omega)).A, t116, up1_self], v2⟩
    · obtain ⟨b1, b2, b3, b4⟩ := a j (by omega)
      refine ⟨by rw [(v4 117 (by omega)).L, t117, up1_ne _ _ c]; exact b1, by rw [(v4 115 (by omega)).A, t115, up1_ne _ _ c]; exact b2, by rw [(v4 116 (by omega)).A, t116, up1_ne _ _ c]; exact b3, fun p hp => ?_⟩
      rw [v3 _ (by omega), (WT 114 (by omega) (by omega) (by omega)).A]
      exact b4 p hp
theorem r_dr126 {x : Int32} {m : Nat} (hf : 1000 ≤ f) (hm : m ≤ 200) (h0 : sI U 118 0 = I m) : ∃ W', F_X12_drawings_L126 sh f 94 x f U 0 = some (sI U 111 0, uI (uI (uI (uI W' 94 18 1) 94 1 0) 94 2 (-1)) 94 4 (-1)) ∧ (∀ y, y ≠ 112 → y ≠ 114 → y ≠ 115 → y ≠ 116 → y ≠ 117 → Sm U W' y) ∧ (∀ j, j < m → cpE U W' j) ∧ ∀ i, i < 6 → sA W' 112 i = sA U 108 i := by
  have lp : ∀ (d i nf : Nat) (W : St), i + d = 6 → d < nf → (∀ y, y ≠ 112 → Sm U W y) → (∀ j, j < i → sA W 112 j = sA U 108 j) → ∃ W', F_X12_drawings_L126 sh f 94 x nf W (I i) = some (sI U 111 0, uI (uI (uI (uI W' 94 18 1) 94 1 0) 94 2 (-1)) 94 4 (-1)) ∧ (∀ y, y ≠ 112 → y ≠ 114 → y ≠ 115 → y ≠ 116 → y ≠ 117 → Sm U W' y) ∧ (∀ j, j < m → cpE U W' j) ∧ ∀ i, i < 6 → sA W' 112 i = sA U 108 i := by
    intro d
    induction d with
    | zero =>
      intro i nf W h1 h2 fW a
      obtain ⟨nf, rfl⟩ : ∃ e, nf = e + 1 := ⟨nf - 1, by omega⟩
      have : i = 6 := by omega
      subst this
      rw [F_X12_drawings_L126, if_pos (by decide)]
      obtain ⟨V, v0, v1, v2⟩ := r_dr155 (sh := sh) (U := W) (x := x) hf hm (((fW 118 (by omega)).I 0).trans h0) m 0 f W (by omega) (by omega) (fun _ _ _ _ _ => Sm.rfl) (fun j hj => by omega)
      have v0' : F_X12_drawings_L155 sh f 94 x f W 0 = _ := v0
      rw [v0', (fW 111 (by omega)).I]
      refine ⟨V, rfl, fun y a b c d e => (fW y a).trans (v1 y b c d e), fun j hj => ?_, fun i hi => ?_⟩
      · obtain ⟨b1, b2, b3, b4⟩ := v2 j hj
        exact ⟨b1.trans ((fW 124 (by omega)).L j), b2.trans ((fW 122 (by omega)).A j), b3.trans ((fW 123 (by omega)).A j), fun p hp => (b4 p hp).trans ((fW 121 (by omega)).A _)⟩
      · rw [(v1 112 (by omega) (by omega) (by omega) (by omega)).A]
        exact a i hi
    | succ d ih =>
      intro i nf W h1 h2 fW a
      obtain ⟨nf, rfl⟩ : ∃ e, nf = e + 1 := ⟨nf - 1, by omega⟩
      have nb : ¬ (I (i : Int) < 0 ∨ 6 ≤ i) := I_bnd (by omega) (by omega)
      have e : sA W (94 + 14) i = sA U 108 i := (fW 108 (by omega)).A i
      rw [F_X12_drawings_L126, if_neg (by rw [show (6 : Int32) = I ((6 : Nat) : Int) from rfl, I_leN (by omega) (by omega)]; omega), I_clN (by omega), if_neg nb, if_neg nb, e]
      simp only [bnd, I_suc]
      refine ih (i + 1) nf (uA W 112 i (sA U 108 i)) (by omega) (by omega) (fun y hy => (fW y hy).trans (by repeat' (first | exact Sm.rfl | (refine Sm.uI ?_ (by omega)) | (refine Sm.uA ?_ (by omega)) | (refine Sm.uJ ?_ (by omega)) | (refine Sm.uL ?_ (by omega)) | (refine Sm.uR ?_ (by omega))))) (fun j hj => ?_)
      rw [sA_uA, if_pos rfl, up1_if]
      by_cases c : j = i
      · rw [if_pos c, c]
      · rw [if_neg c]
        exact a j (by omega)
  exact lp 6 0 f U (by omega) (by omega) (fun _ _ => Sm.rfl) (fun j hj => by omega)
end AOa
