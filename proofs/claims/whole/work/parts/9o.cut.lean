/-! THE CUT test; at most two cuts; heavies of a group are alike. -/
section O9o
variable {Y : Ly} {ρ : Nat → Nat}
theorem lkW_lt (i : Nat) : lkW Y ρ i < 8 := mkb_lt _ 3
theorem lkW_tb (i k : Nat) : (lkW Y ρ i).testBit k = (decide (k < 3) && (List.range (yL Y)).any (fun x => decide (x ≠ i ∧ x ≠ ρ i) && lkN Y x (ρ x) == 2 ^ k)) := mkb_tb _ k 3
theorem lkM_tb (m k : Nat) : (lkM Y ρ m).testBit k = (decide (k < 3) && (List.range m).any (fun x => lkN Y x (ρ x) == 2 ^ k)) := mkb_tb _ k 3
theorem two_ex (m k x y : Nat) (hxy : x < y) (hy : y < m) (ex : x < ρ x ∧ lkN Y x (ρ x) = 2 ^ k) (ey : y < ρ y ∧ lkN Y y (ρ y) = 2 ^ k) : twB Y ρ m k = true := by
  unfold twB
  rw [anyR]
  refine ⟨y, hy, ?_⟩
  rw [Bool.and_eq_true, Bool.and_eq_true, decide_eq_true_eq, beq_iff_eq]
  refine ⟨ey, ?_⟩
  unfold onB
  rw [anyR]
  exact ⟨x, hxy, by rw [Bool.and_eq_true, decide_eq_true_eq, beq_iff_eq]; exact ex⟩
theorem two_of (m k : Nat) (h : twB Y ρ m k = true) : ∃ x y, x < y ∧ y < m ∧ (x < ρ x ∧ lkN Y x (ρ x) = 2 ^ k) ∧ (y < ρ y ∧ lkN Y y (ρ y) = 2 ^ k) := by
  unfold twB at h
  rw [anyR] at h
  obtain ⟨y, hy, e⟩ := h
  rw [Bool.and_eq_true, Bool.and_eq_true, decide_eq_true_eq, beq_iff_eq] at e
  have e2 := e.2
  unfold onB at e2
  rw [anyR] at e2
  obtain ⟨x, hx, g⟩ := e2
  rw [Bool.and_eq_true, decide_eq_true_eq, beq_iff_eq] at g
  exact ⟨x, y, hx, hy, g, e.1⟩
/-- without a join whose link is none, or is there twice, the links are the same -/
theorem lkW_same (w : yRw Y ρ) {i : Nat} (hi : i < yL Y) (hlt : i < ρ i) (h : ∀ k, k < 3 → lkN Y i (ρ i) = 2 ^ k → twB Y ρ (yL Y) k = true) : lkW Y ρ i = lkM Y ρ (yL Y) := by
  apply Nat.eq_of_testBit_eq
  intro k
  rw [lkW_tb, lkM_tb]
  by_cases k3 : k < 3
  · congr 1
    rw [Bool.eq_iff_iff, anyR, anyR]
    constructor
    · rintro ⟨x, hx, e⟩
      rw [Bool.and_eq_true] at e
      exact ⟨x, hx, e.2⟩
    · rintro ⟨x, hx, e⟩
      rw [beq_iff_eq] at e
      obtain ⟨r1, r2, r3, r4⟩ := yRw_lt w hi
      by_cases c : x ≠ i ∧ x ≠ ρ i
      · exact ⟨x, hx, by rw [Bool.and_eq_true, decide_eq_true_eq, beq_iff_eq]; exact ⟨c, e⟩⟩
      · have ek : lkN Y i (ρ i) = 2 ^ k := by
          by_cases d : x = i
          · rw [← d]; exact e
          · have : x = ρ i := by omega
            rw [this, r2, lkN_sy] at e
            exact e
        obtain ⟨a, b, h1, h2, ha, hb⟩ := two_of _ _ (h k k3 ek)
        have ra := yRw_lt w (show a < yL Y by omega)
        have rb := yRw_lt w h2
        by_cases d : a = i
        · refine ⟨b, h2, ?_⟩
          rw [Bool.and_eq_true, decide_eq_true_eq, beq_iff_eq]
          refine ⟨⟨by omega, fun e => ?_⟩, hb.2⟩
          have := hb.1
          rw [e, r2] at this
          omega
        · refine ⟨a, by omega, ?_⟩
          rw [Bool.and_eq_true, decide_eq_true_eq, beq_iff_eq]
          refine ⟨⟨d, fun e => ?_⟩, ha.2⟩
          have := ha.1
          rw [e, r2] at this
          omega
  · rw [decide_eq_false k3, Bool.false_and, Bool.false_and]
/-- and else it is without that link -/
theorem lkW_less (w : yRw Y ρ) {i k : Nat} (hi : i < yL Y) (hlt : i < ρ i) (k3 : k < 3) (e : lkN Y i (ρ i) = 2 ^ k) (h : twB Y ρ (yL Y) k = false) : lkW Y ρ i = lkM Y ρ (yL Y) &&& (lkN Y i (ρ i) ^^^ 4294967295) := by
  have lt := lkM_lt (Y := Y) (ρ := ρ) (yL Y)
  obtain ⟨r1, r2, r3, r4⟩ := yRw_lt w hi
  apply Nat.eq_of_testBit_eq
  intro j
  rw [andn_tb (by omega), lkW_tb, lkM_tb, e, Nat.testBit_two_pow]
  by_cases j3 : j < 3
  · rw [decide_eq_true j3, Bool.true_and, Bool.true_and]
    by_cases c : k = j
    · subst c
      rw [decide_eq_true rfl]
      have : ¬ ((List.range (yL Y)).any (fun x => decide (x ≠ i ∧ x ≠ ρ i) && lkN Y x (ρ x) == 2 ^ k)) = true := by
        rw [anyR]
        rintro ⟨x, hx, g⟩
        rw [Bool.and_eq_true, decide_eq_true_eq, beq_iff_eq] at g
        obtain ⟨⟨g1, g2⟩, g3⟩ := g
        obtain ⟨s1, s2, s3, s4⟩ := yRw_lt w hx
        have key : ∀ z, z < yL Y → z ≠ i → z < ρ z → lkN Y z (ρ z) = 2 ^ k → False := by
          intro z hz z1 z2 z3
          have : twB Y ρ (yL Y) k = true := by
            by_cases d : z < i
            · exact two_ex _ _ z i d hi ⟨z2, z3⟩ ⟨hlt, e⟩
            · exact two_ex _ _ i z (by omega) hz ⟨hlt, e⟩ ⟨z2, z3⟩
          rw [h] at this
          exact absurd this (by decide)
        by_cases d : x < ρ x
        · exact key x hx g1 d g3
        · refine key (ρ x) s1 (fun q => g2 (by rw [← q, s2])) (by rw [s2]; omega) ?_
          rw [s2, lkN_sy]
          exact g3
      rw [eq_false_of_ne_true this]
      simp
    · rw [decide_eq_false c]
      simp only [Bool.not_false, Bool.and_true]
      rw [Bool.eq_iff_iff, anyR, anyR]
      constructor
      · rintro ⟨x, hx, g⟩
        rw [Bool.and_eq_true] at g
        exact ⟨x, hx, g.2⟩
      · rintro ⟨x, hx, g⟩
        rw [beq_iff_eq] at g
        refine ⟨x, hx, ?_⟩
        rw [Bool.and_eq_true, decide_eq_true_eq, beq_iff_eq]
        refine ⟨⟨fun q => ?_, fun q => ?_⟩, g⟩
        · rw [q, e] at g
          exact c (p2_inj g)
        · rw [q, r2, lkN_sy, e] at g
          exact c (p2_inj g)
  · rw [decide_eq_false j3, Bool.false_and, Bool.false_and, Bool.false_and]
theorem cut_k (ok : yOk Y) (w : yRw Y ρ) (hg : hgP Y ρ) {i : Nat} (hi : i < yL Y) (c : cutB Y ρ i = true) : ∃ k, k < 3 ∧ lkN Y i (ρ i) = 2 ^ k ∧ twB Y ρ (yL Y) k = false ∧ lkW Y ρ i = lkM Y ρ (yL Y) &&& (lkN Y i (ρ i) ^^^ 4294967295) := by
  unfold cutB at c
  rw [decide_eq_true_eq] at c
  obtain ⟨c1, c2, c3⟩ := c
  have hh := (hang_iff ok w).mpr hg
  have ne : ¬ lkW Y ρ i = lkM Y ρ (yL Y) := by
    intro e
    rw [e] at c3
    omega
  apply Classical.byContradiction
  intro no
  apply ne
  apply lkW_same w hi c2
  intro k k3 e
  apply Classical.byContradiction
  intro t
  have t := eq_false_of_ne_true t
  exact no ⟨k, k3, e, t, lkW_less w hi c2 k3 e t⟩
def cl (Y : Ly) (ρ : Nat → Nat) (m : Nat) : List Nat := (List.range m).filter (cutB Y ρ)
theorem pop_7 : ∀ k : Fin 3, popN 12 (7 &&& (2 ^ k.val ^^^ 4294967295)) = 2 := by decide +kernel
theorem cl_len (ok : yOk Y) (w : yRw Y ρ) (hg : hgP Y ρ) : (cl Y ρ (yL Y)).length ≤ 2 := by
  have v := ok.2.2.2.1
  have srt : (cl Y ρ (yL Y)).Pairwise (· < ·) := (pw_range _).sublist List.filter_sublist
  have mem : ∀ x, x ∈ cl Y ρ (yL Y) → x < yL Y ∧ cutB Y ρ x = true := by
    intro x hx
    unfold cl at hx
    rw [List.mem_filter, List.mem_range] at hx
    exact hx
  match hl : cl Y ρ (yL Y), srt, mem with
  | [], _, _ => simp
  | [_], _, _ => simp
  | [_, _], _, _ => simp
  | a :: b :: c :: r, srt, mem =>
    exfalso
    obtain ⟨a1, a2⟩ := mem a (by simp)
    obtain ⟨b1, b2⟩ := mem b (by simp)
    obtain ⟨c1, c2⟩ := mem c (by simp)
    have ab : a < b := (List.pairwise_cons.mp srt).1 b (by simp)
    have srt2 := (List.pairwise_cons.mp srt).2
    have bc : b < c := (List.pairwise_cons.mp srt2).1 c (by simp)
    obtain ⟨ka, ka3, ea, ta, wa⟩ := cut_k ok w hg a1 a2
    obtain ⟨kb, kb3, eb, tb, wb⟩ := cut_k ok w hg b1 b2
    obtain ⟨kc, kc3, ec, tc, wc⟩ := cut_k ok w hg c1 c2
    have da := (of_decide_eq_true a2)
    have db := (of_decide_eq_true b2)
    have dcc := (of_decide_eq_true c2)
    have nab : ka ≠ kb := by
      intro e
      have := two_ex (yL Y) ka a b ab b1 ⟨da.2.1, ea⟩ ⟨db.2.1, by rw [eb, e]⟩
      rw [ta] at this
      exact absurd this (by decide)
    have nac : ka ≠ kc := by
      intro e
      have := two_ex (yL Y) ka a c (by omega) c1 ⟨da.2.1, ea⟩ ⟨dcc.2.1, by rw [ec, e]⟩
      rw [ta] at this
      exact absurd this (by decide)
    have nbc : kb ≠ kc := by
      intro e
      have := two_ex (yL Y) kb b c bc c1 ⟨db.2.1, eb⟩ ⟨dcc.2.1, by rw [ec, e]⟩
      rw [tb] at this
      exact absurd this (by decide)
    have full : lkM Y ρ (yL Y) = 7 := by
      apply Nat.eq_of_testBit_eq
      intro k
      rw [lkM_tb, show (7 : Nat) = 2 ^ 3 - 1 from rfl, Nat.testBit_two_pow_sub_one]
      by_cases k3 : k < 3
      · rw [decide_eq_true k3, Bool.true_and, anyR]
        have : k = ka ∨ k = kb ∨ k = kc := by omega
        rcases this with h | h | h
        · exact ⟨a, a1, by rw [ea, h, beq_self_eq_true]⟩
        · exact ⟨b, b1, by rw [eb, h, beq_self_eq_true]⟩
        · exact ⟨c, c1, by rw [ec, h, beq_self_eq_true]⟩
      · rw [decide_eq_false k3, Bool.false_and]
    rw [full, ea] at wa
    have := pop_7 ⟨ka, ka3⟩
    simp only at this
    rw [← wa] at this
    omega
theorem cl_pre (m d : Nat) : (cl Y ρ m).length ≤ (cl Y ρ (m + d)).length := by
  unfold cl
  induction d with
  | zero => exact Nat.le_refl _
  | succ d ih =>
    rw [show m + (d + 1) = m + d + 1 by omega, List.range_succ, List.filter_append, List.length_append]
    omega
theorem cl_s (m : Nat) : cl Y ρ (m + 1) = cl Y ρ m ++ (if cutB Y ρ m = true then [m] else []) := by
  unfold cl
  rw [List.range_succ, List.filter_append, List.filter_cons, List.filter_nil]
theorem cl_N (m : Nat) (hm : m ≤ yN Y) : cl Y ρ m = [] := by
  unfold cl
  rw [List.filter_eq_nil_iff]
  intro x hx
  have := List.mem_range.mp hx
  unfold cutB
  rw [decide_eq_true_eq]
  omega
end O9o
