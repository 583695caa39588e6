theorem fx_least {h : Nat → Nat} {k q : Nat} (hk : k ≤ 3) (hq : q ≤ k) (h1 : ∀ q', q' < q → h q' ≠ h k) (h2 : h q = h k) : fx h k = q := by
  have a := h1 0
  have b := h1 1
  have c := h1 2
  have d : k = 0 ∨ k = 1 ∨ k = 2 ∨ k = 3 := by omega
  have e : q = 0 ∨ q = 1 ∨ q = 2 ∨ q = 3 := by omega
  unfold fx
  grind
/-- what laying a point has written, up to its k-th leg -/
def lpP (S S' : St) (t : Nat) (B : Bk) (r p m k : Nat) : Prop := sI S' t 9 = I ((m + k : Nat) : Int) ∧ (∀ j, j ≠ 9 → sI S' t j = sI S t j) ∧ (∀ i, i < m → sA S' (t + 1) i = sA S (t + 1) i ∧ sA S' (t + 2) i = sA S (t + 2) i ∧ sA S' (t + 3) i = sA S (t + 3) i) ∧ (∀ q, q < k → sA S' (t + 1) (m + q) = I (bG B r q) ∧ sA S' (t + 2) (m + q) = I p ∧ sA S' (t + 3) (m + q) = I ((m + fx (bG B r) q : Nat) : Int)) ∧ ∀ c, c ≠ t → c ≠ t + 1 → c ≠ t + 2 → c ≠ t + 3 → Sm S S' c
section E9e
variable {sh : List Sh} {f : Nat} {B : Bk} {b t r p m : Nat}
theorem c_first (S : St) {k : Nat} (l3 : Int32) (k25 : St → Int32 → Int32 → Option St) (hk : k ≤ 3) (hm : m + k < 12) (s9 : sI S t 9 = I ((m + k : Nat) : Int)) (hl : ∀ q, q ≤ k → sA S (t + 1) (m + q) = I (bG B r q)) (hb : ∀ q, q ≤ k → bG B r q < 8) : ∀ (d q nf : Nat), q + d = k → d < nf → (∀ q', q' < q → bG B r q' ≠ bG B r k) → F_X4_layPoint_L83 sh f t b (I p) k25 nf S l3 (I k) (I ((m + q : Nat) : Int)) = k25 (uI (uA S (t + 3) (m + k) (I ((m + fx (bG B r) k : Nat) : Int))) t 9 (I ((m + k + 1 : Nat) : Int))) l3 (I ((k + 1 : Nat) : Int)) := by
  have cl : (I ((m + k : Nat) : Int)).toNatClampNeg = m + k := I_clN (by omega)
  have c0 : ¬ (I ((m + k : Nat) : Int) < 0 ∨ 12 ≤ m + k) := by
    rw [show (0 : Int32) = I 0 from rfl, I_lt (by omega) (by omega)]; omega
  have nx : I ((m + k : Nat) : Int) + 1 = I ((m + k + 1 : Nat) : Int) := by rw [show (1 : Int32) = I 1 from rfl, I_add]; rfl
  have nk : I (k : Int) + 1 = I ((k + 1 : Nat) : Int) := by rw [show (1 : Int32) = I 1 from rfl, I_add]; rfl
  intro d
  induction d with
  | zero =>
    intro q nf h1 h2 h3
    obtain ⟨nf, rfl⟩ : ∃ e, nf = e + 1 := ⟨nf - 1, by omega⟩
    have : q = k := by omega
    subst this
    have c1 : I ((m + q : Nat) : Int) ≤ I ((m + q : Nat) : Int) := by rw [I_leN (by omega) (by omega)]; omega
    rw [F_X4_layPoint_L83]
    simp only [s9, if_pos c1, cl, if_neg c0, bnd, sI_uA, nx, nk, fx_least hk (Nat.le_refl _) h3 rfl]
  | succ d ih =>
    intro q nf h1 h2 h3
    obtain ⟨nf, rfl⟩ : ∃ e, nf = e + 1 := ⟨nf - 1, by omega⟩
    have c1 : ¬ I ((m + k : Nat) : Int) ≤ I ((m + q : Nat) : Int) := by rw [I_leN (by omega) (by omega)]; omega
    have ql : (I ((m + q : Nat) : Int)).toNatClampNeg = m + q := I_clN (by omega)
    have q0 : ¬ (I ((m + q : Nat) : Int) < 0 ∨ 12 ≤ m + q) := by
      rw [show (0 : Int32) = I 0 from rfl, I_lt (by omega) (by omega)]; omega
    have qx : I ((m + q : Nat) : Int) + 1 = I ((m + (q + 1) : Nat) : Int) := by rw [show (1 : Int32) = I 1 from rfl, I_add]; rfl
    have b1 := hb q (by omega)
    have b2 := hb k (by omega)
    have qe : (I (bG B r q : Int) = I (bG B r k)) = (bG B r q = bG B r k) := I_eqN (by omega) (by omega)
    rw [F_X4_layPoint_L83]
    simp only [s9, if_neg c1, cl, ql, if_neg c0, if_neg q0, hl q (by omega), hl k (by omega), qe]
    by_cases ce : bG B r q = bG B r k
    · simp only [if_pos ce, bnd, sI_uA, s9, nx, nk, fx_least hk (show q ≤ k by omega) h3 ce]
    · simp only [if_neg ce, bnd, qx]
      exact ih (q + 1) nf (by omega) (by omega) (fun q' hq' => by
        by_cases e : q' = q
        · subst e; exact ce
        · exact h3 q' (by omega))
theorem c_layPoint (hf : 1000 ≤ f) (S : St) (h : bkC S b B) (hbt : b + 9 < t ∨ t + 7 < b) (ok : bkOk B) (hp : p < 3) (hr : r < bR B) (s6 : sA S (t + 6) p = I r) (s9 : sI S t 9 = I m) (hm : m + bZ B r ≤ 12) : ∃ S', F_X4_layPoint sh f S t b (I p) = some S' ∧ sA S' (t + 7) p = I m ∧ (∀ q, q ≠ p → sA S' (t + 7) q = sA S (t + 7) q) ∧ lpP (uA S (t + 7) p (I m)) S' t B r p m (bZ B r) := by
  have rl := ok.2.2.2 r hr
  have r4 := ok.2.1
  have rz := rl.2.1
  have k8 := ok.1.1
  have pcl : (I (p : Int)).toNatClampNeg = p := I_clN (by omega)
  have p0 : ¬ (I (p : Int) < 0 ∨ 3 ≤ p) := by
    rw [show (0 : Int32) = I 0 from rfl, I_lt (by omega) (by omega)]; omega
  have rcl : (I (r : Int)).toNatClampNeg = r := I_clN (by omega)
  have r0 : ¬ (I (r : Int) < 0 ∨ 4 ≤ r) := by
    rw [show (0 : Int32) = I 0 from rfl, I_lt (by omega) (by omega)]; omega
  have z6 := (h.2.2.2 r hr).1
  have zg := (h.2.2.2 r hr).2.2.2
  have key : ∀ (d k nf : Nat) (T : St), k + d = bZ B r → d < nf → lpP (uA S (t + 7) p (I m)) T t B r p m k → ∃ S', F_X4_layPoint_L25 sh f t b (I p) nf T (I (bZ B r)) (I k) = some S' ∧ lpP (uA S (t + 7) p (I m)) S' t B r p m (bZ B r) := by
    intro d
    induction d with
    | zero =>
      intro k nf T h1 h2 hT
      obtain ⟨nf, rfl⟩ : ∃ e, nf = e + 1 := ⟨nf - 1, by omega⟩
      have : k = bZ B r := by omega
      subst this
      exact ⟨T, by rw [F_X4_layPoint_L25, if_pos (by rw [I_leN (by omega) (by omega)]; omega)], hT⟩
    | succ d ih =>
      intro k nf T h1 h2 hT
      obtain ⟨nf, rfl⟩ : ∃ e, nf = e + 1 := ⟨nf - 1, by omega⟩
      obtain ⟨a1, a2, a3, a4, a5⟩ := hT
      have c1 : ¬ I (bZ B r : Int) ≤ I k := by rw [I_leN (by omega) (by omega)]; omega
      have c2 : ¬ (12 : Int32) ≤ I ((m + k : Nat) : Int) := by
        rw [show (12 : Int32) = I ((12 : Nat) : Int) from rfl, I_leN (by omega) (by omega)]; omega
      have cl : (I ((m + k : Nat) : Int)).toNatClampNeg = m + k := I_clN (by omega)
      have c0 : ¬ (I ((m + k : Nat) : Int) < 0 ∨ 12 ≤ m + k) := by
        rw [show (0 : Int32) = I 0 from rfl, I_lt (by omega) (by omega)]; omega
      have t6 : sA T (t + 6) p = I r := by
        rw [(a5 (t + 6) (by omega) (by omega) (by omega) (by omega)).A p, sA_row _ _ _ (by omega), s6]
      have ix : I (r : Int) * 4 + I k = I ((4 * r + k : Nat) : Int) := by
        rw [show (4 : Int32) = I 4 from rfl, I_mul, I_add]; congr 1; omega
      have icl : (I ((4 * r + k : Nat) : Int)).toNatClampNeg = 4 * r + k := I_clN (by omega)
      have i0 : ¬ (I ((4 * r + k : Nat) : Int) < 0 ∨ 16 ≤ 4 * r + k) := by
        rw [show (0 : Int32) = I 0 from rfl, I_lt (by omega) (by omega)]; omega
      have g9 : sA T (b + 9) (4 * r + k) = I (bG B r k) := by
        rw [(a5 (b + 9) (by omega) (by omega) (by omega) (by omega)).A, sA_row _ _ _ (by omega)]
        exact zg k (by omega)
      have t7 : sA T (t + 7) p = I m := by
        rw [(a5 (t + 7) (by omega) (by omega) (by omega) (by omega)).A p, sA_uA, if_pos rfl, up1_self]
      generalize hS2 : uA (uA T (t + 1) (m + k) (I (bG B r k))) (t + 2) (m + k) (I p) = S2
      have e1 : sI S2 t 9 = I ((m + k : Nat) : Int) := by rw [← hS2]; exact a1
      have u1 : ∀ i, sA S2 (t + 1) i = up1 (sA T (t + 1)) (m + k) (I (bG B r k)) i := by
        intro i
        rw [← hS2, sA_row _ _ _ (by omega), sA_uA, if_pos rfl]
      have u2 : ∀ i, sA S2 (t + 2) i = up1 (sA T (t + 2)) (m + k) (I p) i := by
        intro i
        rw [← hS2, sA_uA, if_pos rfl, sA_row _ _ _ (by omega)]
      have u3 : ∀ c, c ≠ t + 1 → c ≠ t + 2 → Sm T S2 c := by
        intro c x y
        rw [← hS2]
        exact (by repeat' (first | exact Sm.rfl | (refine Sm.uI ?_ (by omega)) | (refine Sm.uA ?_ (by omega)) | (refine Sm.uJ ?_ (by omega)) | (refine Sm.uL ?_ (by omega)) | (refine Sm.uR ?_ (by omega))))
      have hl : ∀ q, q ≤ k → sA S2 (t + 1) (m + q) = I (bG B r q) := by
        intro q hq
        rw [u1, up1_if]
        by_cases e : q = k
        · rw [if_pos (by omega), e]
        · rw [if_neg (by omega)]
          exact (a4 q (by omega)).1
      have hb : ∀ q, q ≤ k → bG B r q < 8 := fun q hq => by
        have := (rl.2.2.2.2.2 q (by omega)).1
        omega
      have fst := c_first (sh := sh) (f := f) (b := b) (p := p) S2 (I (bZ B r)) (F_X4_layPoint_L25 sh f t b (I p) nf) (by have := rl.2.1; omega) (show m + k < 12 by omega) e1 hl hb k 0 f (by omega) (by have := rl.2.1; omega) (fun q' hq' => by omega)
      have t72 : sA S2 (t + 7) p = I m := ((u3 (t + 7) (by omega) (by omega)).A p).trans t7
      have nT : lpP (uA S (t + 7) p (I m)) (uI (uA S2 (t + 3) (m + k) (I ((m + fx (bG B r) k : Nat) : Int))) t 9 (I ((m + k + 1 : Nat) : Int))) t B r p m (k + 1) := by
        refine ⟨sI_self _ _ _ _, fun j hj => ?_, fun i hi => ?_, fun q hq => ?_, fun c x y z w => ?_⟩
        · rw [sI_ne _ _ _ hj]
          show sI S2 t j = _
          rw [(u3 t (by omega) (by omega)).I j]
          exact a2 j hj
        · obtain ⟨x1, x2, x3⟩ := a3 i hi
          refine ⟨?_, ?_, ?_⟩
          · show sA (uA S2 (t + 3) (m + k) _) (t + 1) i = _
            rw [sA_row _ _ _ (by omega), u1, up1_ne _ _ (by omega)]
            exact x1
          · show sA (uA S2 (t + 3) (m + k) _) (t + 2) i = _
            rw [sA_row _ _ _ (by omega), u2, up1_ne _ _ (by omega)]
            exact x2
          · show sA (uA S2 (t + 3) (m + k) _) (t + 3) i = _
            rw [sA_uA, if_pos rfl, up1_ne _ _ (by omega), (u3 (t + 3) (by omega) (by omega)).A i]
            exact x3
        · refine ⟨?_, ?_, ?_⟩
          · show sA (uA S2 (t + 3) (m + k) _) (t + 1) (m + q) = _
            rw [sA_row _ _ _ (by omega)]
            exact hl q (by omega)
          · show sA (uA S2 (t + 3) (m + k) _) (t + 2) (m + q) = _
            rw [sA_row _ _ _ (by omega), u2, up1_if]
            by_cases e : q = k
            · rw [if_pos (by omega)]
            · rw [if_neg (by omega)]
              exact (a4 q (by omega)).2.1
          · show sA (uA S2 (t + 3) (m + k) _) (t + 3) (m + q) = _
            rw [sA_uA, if_pos rfl, up1_if]
            by_cases e : q = k
            · rw [if_pos (by omega), e]
            · rw [if_neg (by omega), (u3 (t + 3) (by omega) (by omega)).A]
              exact (a4 q (by omega)).2.2
        · exact (a5 c x y z w).trans ((u3 c y z).trans (by repeat' (first | exact Sm.rfl | (refine Sm.uI ?_ (by omega)) | (refine Sm.uA ?_ (by omega)) | (refine Sm.uJ ?_ (by omega)) | (refine Sm.uL ?_ (by omega)) | (refine Sm.uR ?_ (by omega)))))
      obtain ⟨S', g1, g2⟩ := ih (k + 1) nf _ (by omega) (by omega) nT
      refine ⟨S', ?_, g2⟩
      rw [F_X4_layPoint_L25, if_neg c1, a1, if_neg c2]
      simp only [pcl, if_neg p0, t6, ix, icl, if_neg i0, cl, if_neg c0, g9, bnd, sI_uA, a1, hS2, t72]
      exact fst.trans g1
  obtain ⟨S', g1, g2⟩ := key (bZ B r) 0 f (uA S (t + 7) p (I m)) (by omega) (by have := rl.2.1; omega) ⟨by rw [Nat.add_zero]; exact s9, fun j _ => rfl, fun i _ => ⟨rfl, rfl, rfl⟩, fun q hq => by omega, fun c _ _ _ _ => Sm.rfl⟩
  have f7 := g2.2.2.2.2 (t + 7) (by omega) (by omega) (by omega) (by omega)
  refine ⟨S', ?_, ?_, ?_, g2⟩
  · unfold F_X4_layPoint
    have q6 : sA (uA S (t + 7) p (I m)) (t + 6) p = I r := by rw [sA_row _ _ _ (by omega), s6]
    have qz : sA (uA S (t + 7) p (I m)) (b + 6) r = I (bZ B r) := by rw [sA_row _ _ _ (by omega), z6]
    simp only [pcl, if_neg p0, s9, bnd, q6, rcl, if_neg r0, qz]
    exact g1
  · rw [f7.A p, sA_uA, if_pos rfl, up1_self]
  · intro q hq
    rw [f7.A q, sA_uA, if_pos rfl, up1_ne _ _ hq]
end E9e
