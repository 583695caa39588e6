/-! THE REFERENCE's sign of a row. -/
section AMa
variable {sh : List Sh} {f q : Nat} {Y : Ly} {S : St} {ρ : Nat → Nat}
theorem r_isHalf {i : Nat} (ok : yOk Y) (h : shC sh S Y ρ q) (hi : i < yL Y) : F_X12_isHalf sh f S 94 (I i) = some (if yHa Y i = true then 1 else 0) := by
  have L12 := ok.2.2.2.2.2.2.1
  have K8 := ok.1.1.1
  have ki := k_lt ok i
  obtain ⟨h1, h2, h3, h4, h5, h6, h7⟩ := h
  have a1 : sA S (94 + 38) i = I (yK Y i) := (h1.2.2.1 i hi).1
  have a2 : sA S (q + 5) (yK Y i) = I (bS (yB Y) (yK Y i)) := (h7.2.2.1 _ ki).2.2.2.1
  have s2 := (ok.1.1.2 _ ki).2.2.2.2.2.2.2.2.1
  unfold F_X12_isHalf
  rw [h4, Option.bind_some, if_pos h5, I_clN (show i < _ by omega), if_neg (I_bnd (show i < 12 by omega) (by omega)), a1, I_clN (show yK Y i < _ by omega), if_neg (I_bnd (show yK Y i < 8 by omega) (by omega)), a2, show (2 : Int32) = I ((2 : Nat) : Int) from rfl, ite_eqN (by omega) (by omega)]
  unfold yHa
  by_cases c : bS (yB Y) (yK Y i) = 2
  · rw [if_pos c, if_pos (beq_iff_eq.mpr c)]
  · rw [if_neg c, if_neg (fun e => c (beq_iff_eq.mp e))]
theorem cxN_s (i k : Nat) : cxN Y ρ i (k + 1) = cxN Y ρ i k + (if i < k ∧ yHa Y k = true ∧ ρ i < ρ k then 1 else 0) := by
  unfold cxN
  rw [List.range_succ, List.countP_append, List.countP_singleton]
  simp only [Bool.and_eq_true, decide_eq_true_eq]
theorem cxN_0 (i : Nat) : cxN Y ρ i (i + 1) = 0 := by
  unfold cxN
  rw [List.countP_eq_zero]
  intro x hx
  have := List.mem_range.mp hx
  rw [decide_eq_false (show ¬ i < x by omega), Bool.false_and]
  decide
theorem r_sg57 {i : Nat} (ok : yOk Y) (w : yRw Y ρ) (h : shC sh S Y ρ q) (hi : i < yL Y) (s : Int) (k4 : Int32 → Int32 → Option Int32) : ∀ (d k nf : Nat), k + d = ρ i → d < nf → i < k → F_X12_signHere_L57 sh f S 94 k4 nf (I (s * pmN (cxN Y ρ i k))) (I i) (I k) = k4 (I (s * pmN (cxN Y ρ i (ρ i)))) (I ((i + 1 : Nat) : Int)) := by
  have L12 := ok.2.2.2.2.2.2.1
  have r1 := (yRw_lt w hi).1
  have a1 : sA S (94 + 40) i = I (ρ i) := h.2.1 i hi
  intro d
  induction d with
  | zero =>
    intro k nf h1 h2 h3
    obtain ⟨nf, rfl⟩ : ∃ e, nf = e + 1 := ⟨nf - 1, by omega⟩
    have : k = ρ i := by omega
    subst this
    rw [F_X12_signHere_L57, I_clN (show i < _ by omega), if_neg (I_bnd (show i < 12 by omega) (by omega)), a1, if_pos (by rw [I_leN (by omega) (by omega)]; omega)]
    simp only [bnd, I_suc]
  | succ d ih =>
    intro k nf h1 h2 h3
    obtain ⟨nf, rfl⟩ : ∃ e, nf = e + 1 := ⟨nf - 1, by omega⟩
    have kL : k < yL Y := by omega
    have rk := (yRw_lt w kL).1
    have a2 : sA S (94 + 40) k = I (ρ k) := h.2.1 k kL
    have ih' := ih (k + 1) nf (by omega) (by omega) (by omega)
    rw [cxN_s] at ih'
    rw [F_X12_signHere_L57, I_clN (show i < _ by omega), if_neg (I_bnd (show i < 12 by omega) (by omega)), a1, if_neg (by rw [I_leN (by omega) (by omega)]; omega), r_isHalf ok h kL, Option.bind_some]
    by_cases c1 : yHa Y k = true
    · rw [if_pos c1, if_neg (by decide), I_clN (show k < _ by omega), if_neg (I_bnd (show k < 12 by omega) (by omega)), if_neg (I_bnd (show i < 12 by omega) (by omega)), a2, ite_leN (by omega) (by omega)]
      by_cases c2 : ρ k ≤ ρ i
      · rw [if_neg (by omega), Nat.add_zero] at ih'
        rw [if_pos c2]
        simp only [bnd, I_suc]
        exact ih'
      · rw [if_pos ⟨h3, c1, by omega⟩, pmN_s, Int.mul_neg] at ih'
        rw [if_neg c2]
        simp only [bnd, I_suc]
        rw [I_neg]
        exact ih'
    · rw [if_neg (fun q => c1 q.2.1), Nat.add_zero] at ih'
      rw [if_neg c1, if_pos rfl]
      simp only [bnd, I_suc]
      exact ih'
theorem r_signHere (hf : 1000 ≤ f) (ok : yOk Y) (w : yRw Y ρ) (h : shC sh S Y ρ q) : F_X12_signHere sh f S 94 = some (I (sgR Y ρ)) := by
  have L12 := ok.2.2.2.2.2.2.1
  have K8 := ok.1.1.1
  rw [sg_eq ok w]
  have lp : ∀ (d i nf : Nat), i + d = yL Y → d < nf → F_X12_signHere_L4 sh f S 94 nf (I (Zp (uS Y ρ) i)) (I i) = some (I (Zp (uS Y ρ) (yL Y))) := by
    intro d
    induction d with
    | zero =>
      intro i nf h1 h2
      obtain ⟨nf, rfl⟩ : ∃ e, nf = e + 1 := ⟨nf - 1, by omega⟩
      have : i = yL Y := by omega
      subst this
      rw [F_X12_signHere_L4, h.1.1, if_pos (by rw [I_leN (by omega) (by omega)]; omega)]
    | succ d ih =>
      intro i nf h1 h2
      obtain ⟨nf, rfl⟩ : ∃ e, nf = e + 1 := ⟨nf - 1, by omega⟩
      have hi : i < yL Y := by omega
      obtain ⟨r1, r2, r3, _⟩ := yRw_lt w hi
      have ki := k_lt ok i
      have a1 : sA S (94 + 40) i = I (ρ i) := h.2.1 i hi
      have a2 : sA S (94 + 38) i = I (yK Y i) := (h.1.2.2.1 i hi).1
      have a3 : sA S (q + 10) (yK Y i) = (if bF (yB Y) (yK Y i) < yK Y i then I 1 else I 0) := (h.2.2.2.2.2.2.2.2.1 _ ki).2.2.2.2
      have ih' := ih (i + 1) nf (by omega) (by omega)
      rw [Zp] at ih'
      rw [F_X12_signHere_L4, h.1.1, if_neg (by rw [I_leN (by omega) (by omega)]; omega), r_isHalf ok h hi, Option.bind_some]
      by_cases c1 : yHa Y i = true
      · rw [if_pos c1, if_neg (by decide), I_clN (show i < _ by omega), if_neg (I_bnd (show i < 12 by omega) (by omega)), a1, ite_leN (by omega) (by omega)]
        by_cases c2 : i ≤ ρ i
        · have lt : i < ρ i := by omega
          have s57 := fun s => r_sg57 (sh := sh) (f := f) ok w h hi s (F_X12_signHere_L4 sh f S 94 nf) (ρ i - (i + 1)) (i + 1) f (by omega) (by omega) (by omega)
          have u : uS Y ρ i = pmN (cxN Y ρ i (ρ i) + (if ySe Y i = true then 1 else 0)) := by
            unfold uS
            rw [if_pos ⟨c1, lt⟩]
          rw [if_pos c2, h.2.2.2.1, Option.bind_some, if_pos h.2.2.2.2.1, if_neg (I_bnd (show i < 12 by omega) (by omega)), a2, I_clN (show yK Y i < _ by omega), if_neg (I_bnd (show yK Y i < 8 by omega) (by omega)), a3]
          by_cases c3 : bF (yB Y) (yK Y i) < yK Y i
          · have se : ySe Y i = true := decide_eq_true c3
            rw [if_pos c3, if_neg (by decide)]
            simp only [bnd, I_suc]
            have s := s57 (- Zp (uS Y ρ) i)
            rw [cxN_0, show pmN 0 = 1 from rfl, Int.mul_one] at s
            rw [I_neg, s]
            rw [u, if_pos se, pmN_s] at ih'
            rw [Int.neg_mul, ← Int.mul_neg]
            exact ih'
          · have se : ¬ ySe Y i = true := fun e => c3 (of_decide_eq_true e)
            rw [if_neg c3, if_pos (show I 0 = (0 : Int32) from rfl)]
            simp only [bnd, I_suc]
            have s := s57 (Zp (uS Y ρ) i)
            rw [cxN_0, show pmN 0 = 1 from rfl, Int.mul_one] at s
            rw [s]
            rw [u, if_neg se, Nat.add_zero] at ih'
            exact ih'
        · have u : uS Y ρ i = 1 := by
            unfold uS
            rw [if_neg (fun e => c2 (by omega))]
          rw [u, Int.mul_one] at ih'
          rw [if_neg c2]
          simp only [bnd, I_suc]
          exact ih'
      · have u : uS Y ρ i = 1 := by
          unfold uS
          rw [if_neg (fun e => c1 e.1)]
        rw [u, Int.mul_one] at ih'
        rw [if_neg c1, if_pos rfl]
        simp only [bnd, I_suc]
        exact ih'
  exact lp (yL Y) 0 f (by omega) (by omega)
end AMa
