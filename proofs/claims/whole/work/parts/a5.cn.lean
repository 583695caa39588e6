/-! IN ONE PIECE; CUTS, as the reference finds them. -/
section A5a
variable {Y : Ly} {ρ ν : Nat → Nat}
theorem I_n2 (x : Nat) (hx : x < 1000) : ¬ I (x : Int) = (-2 : Int32) := by
  rw [show (-2 : Int32) = I (-2) from rfl, I_eq (by omega) (by omega)]
  omega
theorem kp_all (ok : yOk Y) (w : yRw Y ρ) {x : Nat} (hx : x < yL Y) : kpS (-2) ρ x := by
  have L12 := ok.2.2.2.2.2.2.1
  have := (yRw_lt w hx).1
  exact ⟨I_n2 x (by omega), I_n2 _ (by omega)⟩
theorem lkI_all (ok : yOk Y) (w : yRw Y ρ) : lkI Y ρ (-2) (lkM Y ρ (yL Y)) := by
  refine ⟨lkM_lt _, fun k hk => ?_⟩
  rw [lkM_tb, decide_eq_true hk, Bool.true_and, anyR]
  constructor
  · rintro ⟨x, hx, e⟩
    exact ⟨x, hx, kp_all ok w hx, beq_iff_eq.mp e⟩
  · rintro ⟨x, hx, _, e⟩
    exact ⟨x, hx, beq_iff_eq.mpr e⟩
theorem cnt_cn (ok : yOk Y) (w : yRw Y ρ) (ni : ndI Y ρ (-2) ν) (ne : ndE Y ρ (-2) ν (yL Y)) : cntF ν (yN Y + yV Y) ≤ 1 ↔ cn Y ρ := by
  have nl := N_le ok
  have n1 := ok.2.1.1
  have v1 := ok.2.2.2.1.1
  by_cases no : ∀ i, i < yN Y → yN Y ≤ ρ i
  · rw [nd_one ok w ni ne no (fun i hi => kp_all ok w (by omega)) (lkI_all ok w), hang_iff ok w]
    exact ⟨fun h => ⟨no, h⟩, fun h => h.2⟩
  · constructor
    · intro h
      exfalso
      have z : ν 0 = 0 := by
        have := ni.1 0 (by omega)
        omega
      have al := (cnt_one z (fun k hk => nd_idem ni ne hk)).mp h
      have ex : ∃ i, i < yN Y ∧ ρ i < yN Y := by
        apply Classical.byContradiction
        intro hn
        apply no
        intro i hi
        apply Classical.byContradiction
        intro h2
        exact hn ⟨i, hi, by omega⟩
      obtain ⟨i, hi, hr⟩ := ex
      have D : ∀ x j, j < yN Y → (yD Y x = j ↔ x = j) := by
        intro x j hj
        by_cases c : x < yN Y
        · rw [yD_en c]
        · rw [yD_pt (by omega)]
          constructor
          · intro e; omega
          · intro e; omega
      have hh := ni.2 (fun k => if k = i ∨ k = ρ i then 1 else 0) (by
        intro x hx kx
        obtain ⟨r1, r2, r3, _⟩ := yRw_lt w hx
        obtain ⟨s1, s2, s3, _⟩ := yRw_lt w (show i < yL Y by omega)
        have e : (yD Y x = i ∨ yD Y x = ρ i) ↔ (yD Y (ρ x) = i ∨ yD Y (ρ x) = ρ i) := by
          rw [D _ _ hi, D _ _ hr, D _ _ hi, D _ _ hr]
          constructor
          · rintro (h | h)
            · right; rw [h]
            · left; rw [h, s2]
          · rintro (h | h)
            · right; rw [← r2, h]
            · left; rw [← r2, h, s2]
        by_cases c : yD Y x = i ∨ yD Y x = ρ i
        · simp only [if_pos c, if_pos (e.mp c)]
        · simp only [if_neg c, if_neg (fun h => c (e.mpr h))])
      have h1 := hh i (by omega)
      have h2 := hh (yN Y) (by omega)
      rw [al _ (by omega)] at h1 h2
      simp only [true_or, if_true] at h1
      rw [h1, if_neg (by omega)] at h2
      omega
    · intro h
      exact absurd h.1 no
theorem kp_i {i x : Nat} (ok : yOk Y) (w : yRw Y ρ) (hi : i < yL Y) (hx : x < yL Y) : kpS (I i) ρ x ↔ x ≠ i ∧ x ≠ ρ i := by
  have L12 := ok.2.2.2.2.2.2.1
  obtain ⟨a1, a2, _⟩ := yRw_lt w hx
  obtain ⟨b1, b2, _⟩ := yRw_lt w hi
  unfold kpS
  rw [I_eqN (by omega) (by omega), I_eqN (by omega) (by omega)]
  constructor
  · rintro ⟨h1, h2⟩
    exact ⟨h1, fun e => h2 (by rw [e, b2])⟩
  · rintro ⟨h1, h2⟩
    exact ⟨h1, fun e => h2 (by rw [← a2, e])⟩
theorem lkI_i {i : Nat} (ok : yOk Y) (w : yRw Y ρ) (hi : i < yL Y) : lkI Y ρ (I i) (lkW Y ρ i) := by
  refine ⟨lkW_lt _, fun k hk => ?_⟩
  rw [lkW_tb, decide_eq_true hk, Bool.true_and, anyR]
  constructor
  · rintro ⟨x, hx, e⟩
    rw [Bool.and_eq_true, decide_eq_true_eq] at e
    exact ⟨x, hx, (kp_i ok w hi hx).mpr e.1, beq_iff_eq.mp e.2⟩
  · rintro ⟨x, hx, kx, e⟩
    exact ⟨x, hx, by rw [Bool.and_eq_true, decide_eq_true_eq]; exact ⟨(kp_i ok w hi hx).mp kx, beq_iff_eq.mpr e⟩⟩
/-- a join that isn't of an end: it cuts, its side, and what is on it -/
theorem cnt_cut {i : Nat} (ok : yOk Y) (w : yRw Y ρ) (c : cn Y ρ) (h1 : yN Y ≤ i) (h2 : i < yL Y) (h3 : yN Y ≤ ρ i) (ni : ndI Y ρ (I i) ν) (ne : ndE Y ρ (I i) ν (yL Y)) : (cntF ν (yN Y + yV Y) < 2 ↔ ¬ popN 12 (lkW Y ρ i) + 1 < yV Y) ∧ mkb (fun k => decide (ν k = ν 0)) (yN Y) = sdN Y ρ i ∧ (ν (yD Y i) = ν 0 ↔ ¬ rcN (lkW Y ρ i) (pB Y (ρ 0)) &&& pB Y i = 0) := by
  have nl := N_le ok
  have v3 := ok.2.2.2.1
  have ke : ∀ k, k < yN Y → kpS (I i) ρ k := fun k hk => (kp_i ok w h2 (by omega)).mpr ⟨by omega, by omega⟩
  have lk := lkI_i ok w h2
  have r8 : rcN (lkW Y ρ i) (pB Y (ρ 0)) < 8 := rcN_lt (pB_lt Y _)
  refine ⟨?_, ?_, ?_⟩
  · have := nd_one ok w ni ne c.1 ke lk
    omega
  · unfold sdN edN
    apply mkb_eq
    intro k hk
    have pk := c.1 k hk
    rw [decide_eq_decide, nd_end ne nl c.1 ke hk, nd_rch ok w ni ne c.1 ke lk (pt_a v3 pk (yRw_lt w (by omega)).1).1, pB_pt pk]
    have := (and_tb ⟨_, r8⟩ ⟨_, yP_lt Y (ρ k)⟩).2
    simp only at this
    rw [ne_eq, this, Bool.not_eq_false]
  · rw [yD_pt h1, nd_rch ok w ni ne c.1 ke lk (pt_a v3 h1 h2).1, pB_pt h1]
    have := (and_tb ⟨_, r8⟩ ⟨_, yP_lt Y i⟩).1
    simp only at this
    rw [this, Bool.not_eq_false]
end A5a
