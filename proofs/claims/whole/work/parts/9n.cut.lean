/-! JOINS THAT CUT a drawing in two; heavies. -/
def hvN (Y : Ly) (ρ : Nat → Nat) : Nat → Nat
  | 0 => 1
  | m + 1 => if yN Y ≤ m ∧ m < ρ m then hvN Y ρ m * bH (yB Y) (yK Y m) else hvN Y ρ m
theorem hvN_N {Y : Ly} {ρ : Nat → Nat} : ∀ m, m ≤ yN Y → hvN Y ρ m = 1
  | 0, _ => rfl
  | m + 1, h => by rw [hvN, if_neg (by omega), hvN_N m (by omega)]
theorem lkN_sy (Y : Ly) (i j : Nat) : lkN Y i j = lkN Y j i := by
  unfold lkN
  by_cases c : i < yN Y ∨ j < yN Y ∨ yP Y i = yP Y j
  · rw [if_pos c, if_pos (by omega)]
  · rw [if_neg c, if_neg (by omega), Nat.add_comm]
theorem lkN_p (Y : Ly) (i j : Nat) : lkN Y i j = 0 ∨ ∃ k, k < 3 ∧ lkN Y i j = 2 ^ k := by
  have a := yP_lt Y i
  have b := yP_lt Y j
  unfold lkN
  by_cases c : i < yN Y ∨ j < yN Y ∨ yP Y i = yP Y j
  · rw [if_pos c]; exact Or.inl rfl
  · rw [if_neg c]; exact Or.inr ⟨_, by omega, rfl⟩
/-- links that are there once, twice, among the first m legs; links without the join of i -/
def onB (Y : Ly) (ρ : Nat → Nat) (m k : Nat) : Bool := (List.range m).any (fun x => decide (x < ρ x) && lkN Y x (ρ x) == 2 ^ k)
def twB (Y : Ly) (ρ : Nat → Nat) (m k : Nat) : Bool := (List.range m).any (fun x => (decide (x < ρ x) && lkN Y x (ρ x) == 2 ^ k) && onB Y ρ x k)
def lkW (Y : Ly) (ρ : Nat → Nat) (i : Nat) : Nat := mkb (fun k => (List.range (yL Y)).any (fun x => decide (x ≠ i ∧ x ≠ ρ i) && lkN Y x (ρ x) == 2 ^ k)) 3
def cutB (Y : Ly) (ρ : Nat → Nat) (i : Nat) : Bool := decide (yN Y ≤ i ∧ i < ρ i ∧ popN 12 (lkW Y ρ i) + 1 < yV Y)
theorem any_s (p : Nat → Bool) (m : Nat) : (List.range (m + 1)).any p = ((List.range m).any p || p m) := by
  rw [List.range_succ, List.any_append]
  simp only [List.any_cons, List.any_nil, Bool.or_false]
theorem anyR {p : Nat → Bool} {m : Nat} : (List.range m).any p = true ↔ ∃ x, x < m ∧ p x = true := by
  rw [List.any_eq_true]
  exact ⟨fun ⟨x, a, b⟩ => ⟨x, List.mem_range.mp a, b⟩, fun ⟨x, a, b⟩ => ⟨x, List.mem_range.mpr a, b⟩⟩
def rcS (w r k two : Nat) : Nat := if w.testBit k = true ∧ r &&& two ≠ 0 then r ||| two else r
def rcR (w r : Nat) : Nat := rcS w (rcS w (rcS w r 0 3) 1 5) 2 6
def rcN (w r : Nat) : Nat := rcR w (rcR w r)
theorem rcS_lt {w r k two : Nat} (h : r < 8) (g : two < 8) : rcS w r k two < 8 := by
  unfold rcS
  by_cases c : w.testBit k = true ∧ r &&& two ≠ 0
  · rw [if_pos c]; exact Nat.or_lt_two_pow (n := 3) h g
  · rw [if_neg c]; exact h
theorem rcN_lt {w r : Nat} (h : r < 8) : rcN w r < 8 := by
  unfold rcN rcR
  exact rcS_lt (rcS_lt (rcS_lt (rcS_lt (rcS_lt (rcS_lt h (by omega)) (by omega)) (by omega)) (by omega)) (by omega)) (by omega)
def edN (Y : Ly) (ρ : Nat → Nat) (r : Nat) : Nat := mkb (fun e => decide (pB Y (ρ e) &&& r ≠ 0)) (yN Y)
def sdN (Y : Ly) (ρ : Nat → Nat) (i : Nat) : Nat := edN Y ρ (rcN (lkW Y ρ i) (pB Y (ρ 0)))
def onN (Y : Ly) (ρ : Nat → Nat) (i : Nat) : Nat := if rcN (lkW Y ρ i) (pB Y (ρ 0)) &&& pB Y i = 0 then yK Y (ρ i) else yK Y i
section N9n
variable {sh : List Sh} {f : Nat} {S : St} {t b : Nat} {Y : Ly} {ρ : Nat → Nat}
theorem c_heavies (hf : 1000 ≤ f) (h : lyC S (t + 1) Y) (kb : bkC S b (yB Y)) (ok : yOk Y) (w : yRw Y ρ) : F_X5_heaviesOf sh f S t b (J (e12 ρ)) = some (I (hvN Y ρ (yL Y))) := by
  have L12 := ok.2.2.2.2.2.2.1
  have nl := N_le ok
  have k8 := ok.1.1
  have hr : ∀ i, i < yL Y → ρ i < yL Y := fun i hi => (yRw_lt w hi).1
  have K8 : bK (yB Y) ≤ 8 := ok.1.1.1
  have lp : ∀ (d i nf : Nat), i + d = yL Y → d < nf → yN Y ≤ i → F_X5_heaviesOf_L12 sh f S t b (J (e12 ρ)) nf (I (hvN Y ρ i)) (I i) = some (I (hvN Y ρ (yL Y))) := by
    intro d
    induction d with
    | zero =>
      intro i nf h1 h2 h3
      obtain ⟨nf, rfl⟩ : ∃ e, nf = e + 1 := ⟨nf - 1, by omega⟩
      have : i = yL Y := by omega
      subst this
      rw [F_X5_heaviesOf_L12, h.2.2.1, if_pos (by rw [I_leN (by omega) (by omega)]; omega)]
    | succ d ih =>
      intro i nf h1 h2 h3
      obtain ⟨nf, rfl⟩ : ∃ e, nf = e + 1 := ⟨nf - 1, by omega⟩
      have ri := hr i (by omega)
      have icl : (I (i : Int)).toNatClampNeg = i := I_clN (by omega)
      have kl := k_lt ok i
      have kcl : (I (yK Y i : Int)).toNatClampNeg = yK Y i := I_clN (by omega)
      have q1 : (I (ρ i : Int) ≤ I i) = (ρ i ≤ i) := I_leN (by omega) (by omega)
      have go := ih (i + 1) nf (by omega) (by omega) (by omega)
      rw [F_X5_heaviesOf_L12, h.2.2.1, if_neg (by rw [I_leN (by omega) (by omega)]; omega), c_partnerIn (by omega), Option.bind_some, zz_row L12 hr (by omega)]
      simp only [q1]
      by_cases c : ρ i ≤ i
      · rw [hvN, if_neg (by omega)] at go
        rw [if_pos c]
        simp only [bnd, I_suc]
        exact go
      · rw [hvN, if_pos ⟨h3, by omega⟩] at go
        simp only [if_neg c, icl, if_neg (I_bnd (show i < 12 by omega) (by omega)), (h.2.2.2.2.2.2.1 i (by omega)).1, kcl, if_neg (I_bnd (show yK Y i < 8 by omega) (by omega)), (kb.2.2.1 _ kl).2.1, bnd, I_suc, I_mul]
        exact go
  unfold F_X5_heaviesOf
  simp only [bnd, h.2.1]
  have := lp (yL Y - yN Y) (yN Y) f (by omega) (by omega) (Nat.le_refl _)
  rw [hvN_N _ (Nat.le_refl _)] at this
  exact this
theorem onM_s (m : Nat) (c : m < ρ m) : mkb (onB Y ρ (m + 1)) 3 = mkb (onB Y ρ m) 3 ||| lkN Y m (ρ m) := by
  apply Nat.eq_of_testBit_eq
  intro k
  rw [Nat.testBit_or, mkb_tb, mkb_tb, lkN_tb]
  unfold onB
  rw [any_s, decide_eq_true c, Bool.true_and, Bool.and_or_distrib_left]
theorem onM_n (m : Nat) (c : ¬ m < ρ m) : onB Y ρ (m + 1) = onB Y ρ m := by
  funext k
  unfold onB
  rw [any_s, decide_eq_false c, Bool.false_and, Bool.or_false]
theorem twM_s (m : Nat) (c : m < ρ m) : mkb (twB Y ρ (m + 1)) 3 = mkb (twB Y ρ m) 3 ||| (mkb (onB Y ρ m) 3 &&& lkN Y m (ρ m)) := by
  apply Nat.eq_of_testBit_eq
  intro k
  rw [Nat.testBit_or, Nat.testBit_and, mkb_tb, mkb_tb, mkb_tb, lkN_tb]
  unfold twB
  rw [any_s, decide_eq_true c, Bool.true_and]
  generalize (List.range m).any (fun x => (decide (x < ρ x) && lkN Y x (ρ x) == 2 ^ k) && onB Y ρ x k) = A
  generalize onB Y ρ m k = B
  generalize (lkN Y m (ρ m) == 2 ^ k) = C
  generalize decide (k < 3) = D
  cases A <;> cases B <;> cases C <;> cases D <;> rfl
theorem twM_n (m : Nat) (c : ¬ m < ρ m) : twB Y ρ (m + 1) = twB Y ρ m := by
  funext k
  unfold twB
  rw [any_s, decide_eq_false c, Bool.false_and, Bool.false_and, Bool.or_false]
theorem on_N (m : Nat) (hm : m ≤ yN Y) : mkb (onB Y ρ m) 3 = 0 ∧ mkb (twB Y ρ m) 3 = 0 := by
  induction m with
  | zero =>
    have e1 : onB Y ρ 0 = fun _ => false := by funext k; rfl
    have e2 : twB Y ρ 0 = fun _ => false := by funext k; rfl
    rw [e1, e2]
    exact ⟨rfl, rfl⟩
  | succ m ih =>
    obtain ⟨a, b⟩ := ih (by omega)
    by_cases c : m < ρ m
    · have z : lkN Y m (ρ m) = 0 := by unfold lkN; rw [if_pos (Or.inl (by omega))]
      rw [onM_s m c, twM_s m c, a, b, z]
      exact ⟨rfl, rfl⟩
    · rw [onM_n m c, twM_n m c]
      exact ⟨a, b⟩
theorem c_doubled (hf : 1000 ≤ f) (h : lyC S (t + 1) Y) (ok : yOk Y) (hr : ∀ i, i < yL Y → ρ i < yL Y) : F_X5_doubledLinks sh f S t (J (e12 ρ)) = some (I (mkb (twB Y ρ (yL Y)) 3)) := by
  have L12 := ok.2.2.2.2.2.2.1
  have nl := N_le ok
  have lp : ∀ (d i nf : Nat), i + d = yL Y → d < nf → F_X5_doubledLinks_L14 sh f S t (J (e12 ρ)) nf (I (mkb (onB Y ρ i) 3)) (I (mkb (twB Y ρ i) 3)) (I i) = some (I (mkb (twB Y ρ (yL Y)) 3)) := by
    intro d
    induction d with
    | zero =>
      intro i nf h1 h2
      obtain ⟨nf, rfl⟩ : ∃ e, nf = e + 1 := ⟨nf - 1, by omega⟩
      have : i = yL Y := by omega
      subst this
      rw [F_X5_doubledLinks_L14, h.2.2.1, if_pos (by rw [I_leN (by omega) (by omega)]; omega)]
    | succ d ih =>
      intro i nf h1 h2
      obtain ⟨nf, rfl⟩ : ∃ e, nf = e + 1 := ⟨nf - 1, by omega⟩
      have ri := hr i (by omega)
      have a := mkb_lt (onB Y ρ i) 3
      have a2 := mkb_lt (twB Y ρ i) 3
      have b := lkN_lt Y i (ρ i)
      have a3 : mkb (onB Y ρ i) 3 &&& lkN Y i (ρ i) < 8 := Nat.lt_of_le_of_lt Nat.and_le_left a
      have q1 : (I (ρ i : Int) ≤ I i) = (ρ i ≤ i) := I_leN (by omega) (by omega)
      have go := ih (i + 1) nf (by omega) (by omega)
      rw [F_X5_doubledLinks_L14, h.2.2.1, if_neg (by rw [I_leN (by omega) (by omega)]; omega), c_partnerIn (by omega), Option.bind_some, zz_row L12 hr (by omega), c_link h ok (by omega) ri, Option.bind_some]
      simp only [q1]
      by_cases c : ρ i ≤ i
      · rw [onM_n i (by omega), twM_n i (by omega)] at go
        rw [if_pos c]
        simp only [bnd, I_suc]
        exact go
      · rw [onM_s i (by omega), twM_s i (by omega)] at go
        rw [if_neg c]
        simp only [bnd, I_suc]
        rw [I_and (by omega) (by omega), I_or (by omega) (by omega), I_or (by omega) (by omega)]
        exact go
  unfold F_X5_doubledLinks
  simp only [bnd, h.2.1]
  have := lp (yL Y - yN Y) (yN Y) f (by omega) (by omega)
  obtain ⟨z1, z2⟩ := on_N (Y := Y) (ρ := ρ) (yN Y) (Nat.le_refl _)
  rw [z1, z2] at this
  exact this
theorem c_reach (hf : 1000 ≤ f) (h : lyC S (t + 1) Y) (ok : yOk Y) (hr : ∀ i, i < yL Y → ρ i < yL Y) {m : Nat} (hm : m < 8) : F_X5_reach sh f S t (J (e12 ρ)) (I m) = some (I (rcN m (pB Y (ρ 0)))) := by
  have L12 := ok.2.2.2.2.2.2.1
  have nl := N_le ok
  have n1 := ok.2.1.1
  have p8 := pB_lt Y (ρ 0)
  have st : ∀ (k17 : Int32 → Int32 → Option Int32) (nf r k : Nat) (l5 : Int32), r < 8 → k < 3 → F_X5_reach_L26 sh f S t (J (e12 ρ)) (I m) k17 (nf + 1) (I r) l5 (I k) = F_X5_reach_L26 sh f S t (J (e12 ρ)) (I m) k17 nf (I (rcS m r k (if k = 0 then 3 else if k = 1 then 5 else 6))) l5 (I ((k + 1 : Nat) : Int)) := by
    intro k17 nf r k l5 hr8 hk
    have in53 : ∀ two : Nat, two < 8 → F_X5_reach_L53 sh f S t (J (e12 ρ)) (I m) (F_X5_reach_L26 sh f S t (J (e12 ρ)) (I m) k17 nf) (I r) l5 (I k) (I two) = F_X5_reach_L26 sh f S t (J (e12 ρ)) (I m) k17 nf (I (rcS m r k two)) l5 (I ((k + 1 : Nat) : Int)) := by
      intro two h2
      have al : r &&& two < 8 := Nat.lt_of_le_of_lt Nat.and_le_left hr8
      have q2 : (I (r : Int) &&& I (two : Int) = 0) = (r &&& two = 0) := by
        rw [I_and (by omega) (by omega), show (0 : Int32) = I ((0 : Nat) : Int) from rfl, I_eqN (by omega) (by omega)]
      unfold F_X5_reach_L53
      simp only [I_bit (show m < 4096 by omega) (show k < 12 by omega), q2, bnd, I_suc]
      unfold rcS
      by_cases c : m.testBit k = true
      · rw [if_neg (by rw [c]; decide)]
        by_cases d : r &&& two = 0
        · rw [if_pos d, if_neg (fun h => h.2 d)]
        · rw [if_neg d, if_pos ⟨c, d⟩, I_or (by omega) (by omega)]
      · rw [if_pos (eq_false_of_ne_true c), if_neg (fun h => c h.1)]
    have c3 : ¬ (3 : Int32) ≤ I k := by
      rw [show (3 : Int32) = I ((3 : Nat) : Int) from rfl, I_leN (by omega) (by omega)]; omega
    rw [F_X5_reach_L26, if_neg c3]
    have kk : k = 0 ∨ k = 1 ∨ k = 2 := by omega
    rcases kk with rfl | rfl | rfl
    · exact in53 3 (by omega)
    · exact in53 5 (by omega)
    · exact in53 6 (by omega)
  have rd : ∀ (k17 : Int32 → Int32 → Option Int32) (nf r : Nat) (l5 : Int32), r < 8 → F_X5_reach_L26 sh f S t (J (e12 ρ)) (I m) k17 (nf + 4) (I r) l5 0 = k17 (I (rcR m r)) (l5 + 1) := by
    intro k17 nf r l5 hr8
    have z : (0 : Int32) = I ((0 : Nat) : Int) := rfl
    rw [z, st _ _ _ _ _ hr8 (by omega), st _ _ _ _ _ (rcS_lt hr8 (by decide)) (by omega), st _ _ _ _ _ (rcS_lt (rcS_lt hr8 (by decide)) (by decide)) (by omega), F_X5_reach_L26, if_pos (by decide)]
    rfl
  have R8 : rcR m (pB Y (ρ 0)) < 8 := by
    unfold rcR
    exact rcS_lt (rcS_lt (rcS_lt p8 (by omega)) (by omega)) (by omega)
  obtain ⟨nf, hnf⟩ : ∃ e, f = e + 4 := ⟨f - 4, by omega⟩
  unfold F_X5_reach
  have z : (0 : Int32) = I ((0 : Nat) : Int) := rfl
  rw [z, c_partnerIn (by omega), Option.bind_some, zz_row L12 hr (show 0 < yL Y by omega), c_pointBit h ok (hr 0 (by omega)), Option.bind_some]
  have go : ∀ e, F_X5_reach_L17 sh f S t (J (e12 ρ)) (I m) (e + 3) (I (pB Y (ρ 0))) 1 = some (I (rcN m (pB Y (ρ 0)))) := by
    intro e
    rw [F_X5_reach_L17, if_neg (by decide)]
    have rdf : ∀ (k17 : Int32 → Int32 → Option Int32) (r : Nat) (l5 : Int32), r < 8 → F_X5_reach_L26 sh f S t (J (e12 ρ)) (I m) k17 f (I r) l5 0 = k17 (I (rcR m r)) (l5 + 1) := by
      intro k17 r l5 h8
      have := rd k17 nf r l5 h8
      rw [← hnf] at this
      exact this
    rw [rdf _ _ _ p8, F_X5_reach_L17, if_neg (by decide), rdf _ _ _ R8, F_X5_reach_L17, if_pos (by decide)]
    rfl
  have := go (f - 3)
  rw [show f - 3 + 3 = f by omega] at this
  exact this
theorem c_endsAt (hf : 1000 ≤ f) (h : lyC S (t + 1) Y) (ok : yOk Y) (hr : ∀ i, i < yL Y → ρ i < yL Y) {r : Nat} (hm : r < 8) : F_X5_endsAt sh f S t (J (e12 ρ)) (I r) = some (I (edN Y ρ r)) := by
  have L12 := ok.2.2.2.2.2.2.1
  have nl := N_le ok
  have lp : ∀ (d i nf : Nat), i + d = yN Y → d < nf → F_X5_endsAt_L6 sh f S t (J (e12 ρ)) (I r) nf (I (mkb (fun e => decide (pB Y (ρ e) &&& r ≠ 0)) i)) (I i) = some (I (edN Y ρ r)) := by
    intro d
    induction d with
    | zero =>
      intro i nf h1 h2
      obtain ⟨nf, rfl⟩ : ∃ e, nf = e + 1 := ⟨nf - 1, by omega⟩
      have : i = yN Y := by omega
      subst this
      rw [F_X5_endsAt_L6, h.2.1, if_pos (by rw [I_leN (by omega) (by omega)]; omega)]
      rfl
    | succ d ih =>
      intro i nf h1 h2
      obtain ⟨nf, rfl⟩ : ∃ e, nf = e + 1 := ⟨nf - 1, by omega⟩
      have ri := hr i (by omega)
      have p8 := pB_lt Y (ρ i)
      have al : pB Y (ρ i) &&& r < 8 := Nat.lt_of_le_of_lt Nat.and_le_left p8
      have q2 : (I (pB Y (ρ i) : Int) &&& I (r : Int) = 0) = (pB Y (ρ i) &&& r = 0) := by
        rw [I_and (by omega) (by omega), show (0 : Int32) = I ((0 : Nat) : Int) from rfl, I_eqN (by omega) (by omega)]
      have go := ih (i + 1) nf (by omega) (by omega)
      rw [F_X5_endsAt_L6, h.2.1, if_neg (by rw [I_leN (by omega) (by omega)]; omega), c_partnerIn (by omega), Option.bind_some, zz_row L12 hr (by omega), c_pointBit h ok ri, Option.bind_some]
      simp only [q2, bnd, I_suc]
      by_cases c : pB Y (ρ i) &&& r = 0
      · rw [mkb_s0 (by rw [decide_eq_false (fun h => h c)]; decide)] at go
        rw [if_pos c]
        exact go
      · rw [if_neg c, I_or2 (by omega) (decide_eq_true c)]
        exact go
  unfold F_X5_endsAt
  exact lp (yN Y) 0 f (by omega) (by omega)
end N9n
