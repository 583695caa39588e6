/-! SMALL METHODS over the layout. -/
theorem I_bit {m i : Nat} (hm : m < 4096) (hi : i < 12) : (((I m >>> (I i &&& 31)) &&& 1) = 0) = (m.testBit i = false) := by
  have key : ∀ d : Nat, d = m / 2 ^ i → (I (d : Int) &&& 1 = 0) = (m.testBit i = false) := by
    intro d hd
    have h1 : d ≤ m := by rw [hd]; exact Nat.div_le_self _ _
    rw [show (1 : Int32) = I ((1 : Nat) : Int) from rfl, I_and (by omega) (by omega), Nat.and_one_is_mod, show (0 : Int32) = I ((0 : Nat) : Int) from rfl, I_eqN (by omega) (by omega), hd, tb_z]
  rw [I_shr (by omega) (by omega)]
  exact key _ rfl
theorem I_bnd {i n : Nat} (hi : i < n) (hn : n < 1000) : ¬ (I (i : Int) < 0 ∨ n ≤ i) := by
  rw [show (0 : Int32) = I 0 from rfl, I_lt (by omega) (by omega)]; omega
theorem I_suc (i : Nat) : I (i : Int) + 1 = I ((i + 1 : Nat) : Int) := by rw [show (1 : Int32) = I 1 from rfl, I_add]; rfl
theorem p2_inj {m k : Nat} (e : 2 ^ m = 2 ^ k) : m = k := by
  have h := congrArg (fun x => x.testBit m) e
  simp only [Nat.testBit_two_pow_self, Nat.testBit_two_pow] at h
  exact (of_decide_eq_true h.symm).symm
/-- the mask of a point; of a link -/
def pB (Y : Ly) (i : Nat) : Nat := if i < yN Y then 0 else 2 ^ yP Y i
def lkN (Y : Ly) (i j : Nat) : Nat := if i < yN Y ∨ j < yN Y ∨ yP Y i = yP Y j then 0 else 2 ^ (yP Y i + yP Y j - 1)
theorem yP_lt (Y : Ly) (i : Nat) : yP Y i < 3 := by
  unfold yP
  by_cases c1 : i < yS Y 1
  · rw [if_pos c1]; omega
  · rw [if_neg c1]
    by_cases c2 : i < yS Y 2
    · rw [if_pos c2]; omega
    · rw [if_neg c2]; omega
theorem pI_ge {Y : Ly} {i : Nat} : (0 ≤ pI Y i) = (yN Y ≤ i) := by
  unfold pI
  by_cases c : i < yN Y
  · rw [if_pos c]
    exact propext ⟨fun h => absurd h (by decide), fun h => by omega⟩
  · have := yP_lt Y i
    rw [if_neg c, show (0 : Int32) = I ((0 : Nat) : Int) from rfl, I_leN (by omega) (by omega)]
    exact propext ⟨fun h => by omega, fun h => by omega⟩
theorem pI_lt {Y : Ly} {i : Nat} : (pI Y i < 0) = (i < yN Y) := by
  unfold pI
  by_cases c : i < yN Y
  · rw [if_pos c]
    exact propext ⟨fun h => c, fun h => by decide⟩
  · have := yP_lt Y i
    rw [if_neg c, show (0 : Int32) = I ((0 : Nat) : Int) from rfl, I_ltN (by omega) (by omega)]
    exact propext ⟨fun h => by omega, fun h => by omega⟩
theorem pB_lt (Y : Ly) (i : Nat) : pB Y i < 8 := by
  unfold pB
  have := yP_lt Y i
  by_cases c : i < yN Y
  · rw [if_pos c]; omega
  · rw [if_neg c]
    have : yP Y i = 0 ∨ yP Y i = 1 ∨ yP Y i = 2 := by omega
    rcases this with h | h | h <;> rw [h] <;> decide
theorem lkN_lt (Y : Ly) (i j : Nat) : lkN Y i j < 8 := by
  unfold lkN
  have a := yP_lt Y i
  have b := yP_lt Y j
  by_cases c : i < yN Y ∨ j < yN Y ∨ yP Y i = yP Y j
  · rw [if_pos c]; omega
  · rw [if_neg c]
    have : yP Y i + yP Y j - 1 = 0 ∨ yP Y i + yP Y j - 1 = 1 ∨ yP Y i + yP Y j - 1 = 2 := by omega
    rcases this with h | h | h <;> rw [h] <;> decide
section I9i
variable {sh : List Sh} {f : Nat} {S : St} {t : Nat} {Y : Ly} {ρ : Nat → Nat}
theorem c_pointBit (h : lyC S t Y) (ok : yOk Y) {i : Nat} (hi : i < yL Y) : F_X4_pointBit sh f S t (I i) = some (I (pB Y i)) := by
  have L12 := ok.2.2.2.2.2.2.1
  have icl : (I (i : Int)).toNatClampNeg = i := I_clN (by omega)
  have p3 := yP_lt Y i
  unfold F_X4_pointBit
  simp only [icl, if_neg (I_bnd (show i < 12 by omega) (by omega)), (h.2.2.2.2.2.2.1 i hi).2.1, pI_ge]
  unfold pB
  by_cases c : i < yN Y
  · rw [if_neg (by omega), if_pos c]; rfl
  · rw [if_pos (by omega), if_neg c]
    unfold pI
    rw [if_neg c, one_shl (by omega)]
theorem c_link (h : lyC S t Y) (ok : yOk Y) {i j : Nat} (hi : i < yL Y) (hj : j < yL Y) : F_X4_link sh f S t (I i) (I j) = some (I (lkN Y i j)) := by
  have L12 := ok.2.2.2.2.2.2.1
  have icl : (I (i : Int)).toNatClampNeg = i := I_clN (by omega)
  have jcl : (I (j : Int)).toNatClampNeg = j := I_clN (by omega)
  have p3 := yP_lt Y i
  have q3 := yP_lt Y j
  unfold F_X4_link
  simp only [icl, jcl, if_neg (I_bnd (show i < 12 by omega) (by omega)), if_neg (I_bnd (show j < 12 by omega) (by omega)), (h.2.2.2.2.2.2.1 i hi).2.1, (h.2.2.2.2.2.2.1 j hj).2.1, bnd, pI_lt]
  unfold lkN
  by_cases c : i < yN Y
  · rw [if_pos c, if_pos (Or.inl c)]; rfl
  · rw [if_neg c]
    by_cases d : j < yN Y
    · rw [if_pos d, if_pos (Or.inr (Or.inl d))]; rfl
    · rw [if_neg d]
      unfold pI
      have q : (I (yP Y i : Int) = I (yP Y j)) = (yP Y i = yP Y j) := I_eqN (by omega) (by omega)
      rw [if_neg c, if_neg d]
      simp only [q]
      by_cases e : yP Y i = yP Y j
      · rw [if_pos e, if_pos (Or.inr (Or.inr e))]; rfl
      · rw [if_neg e, if_neg (by omega)]
        have : I (yP Y i : Int) + I (yP Y j) - 1 = I ((yP Y i + yP Y j - 1 : Nat) : Int) := by
          rw [show (1 : Int32) = I 1 from rfl, I_add, I_sub]; congr 1; omega
        rw [this, one_shl (by omega)]
/-- the links of the joins of the first m legs -/
def lkM (Y : Ly) (ρ : Nat → Nat) (m : Nat) : Nat := mkb (fun k => (List.range m).any (fun i => lkN Y i (ρ i) == 2 ^ k)) 3
theorem lkM_lt (m : Nat) : lkM Y ρ m < 8 := mkb_lt _ 3
theorem lkN_tb (i j k : Nat) : (lkN Y i j).testBit k = (decide (k < 3) && lkN Y i j == 2 ^ k) := by
  have a := yP_lt Y i
  have b := yP_lt Y j
  unfold lkN
  by_cases c : i < yN Y ∨ j < yN Y ∨ yP Y i = yP Y j
  · rw [if_pos c, Nat.zero_testBit]
    have : 0 < 2 ^ k := Nat.two_pow_pos k
    have : ((0 : Nat) == 2 ^ k) = false := by rw [beq_eq_false_iff_ne]; omega
    rw [this, Bool.and_false]
  · rw [if_neg c, Nat.testBit_two_pow]
    generalize hm : yP Y i + yP Y j - 1 = m
    by_cases d : m = k
    · subst d
      rw [decide_eq_true rfl, decide_eq_true (by omega), beq_self_eq_true, Bool.and_true]
    · have : (2 ^ m == 2 ^ k) = false := by
        rw [beq_eq_false_iff_ne]
        intro e
        exact d (p2_inj e)
      rw [decide_eq_false d, this, Bool.and_false]
theorem lkM_s (m : Nat) : lkM Y ρ (m + 1) = lkM Y ρ m ||| lkN Y m (ρ m) := by
  apply Nat.eq_of_testBit_eq
  intro k
  unfold lkM
  rw [Nat.testBit_or, mkb_tb, mkb_tb, lkN_tb, List.range_succ, List.any_append]
  simp only [List.any_cons, List.any_nil, Bool.or_false]
  by_cases c : k < 3
  · rw [decide_eq_true c, Bool.true_and, Bool.true_and, Bool.true_and]
  · rw [decide_eq_false c, Bool.false_and, Bool.false_and, Bool.false_and, Bool.or_false]
theorem lkM_N : ∀ m, m ≤ yN Y → lkM Y ρ m = 0
  | 0, _ => by
    unfold lkM
    simp [mkb]
  | m + 1, h => by
    rw [lkM_s, lkM_N m (by omega)]
    unfold lkN
    rw [if_pos (Or.inl (by omega)), Nat.or_zero]
theorem zz_row {L : Nat} (hL : L ≤ 12) (hr : ∀ i, i < L → ρ i < L) {i : Nat} (hi : i < L) : zz ρ i = ρ i := by
  unfold zz
  rw [if_pos (by have := hr i hi; omega)]
theorem c_links (hf : 1000 ≤ f) (h : lyC S (t + 1) Y) (ok : yOk Y) (hr : ∀ i, i < yL Y → ρ i < yL Y) : F_X5_linksOf sh f S t (J (e12 ρ)) = some (I (lkM Y ρ (yL Y))) := by
  have L12 := ok.2.2.2.2.2.2.1
  have nl := N_le ok
  have lp : ∀ (d i nf : Nat), i + d = yL Y → d < nf → F_X5_linksOf_L11 sh f S t (J (e12 ρ)) nf (I (lkM Y ρ i)) (I i) = some (I (lkM Y ρ (yL Y))) := by
    intro d
    induction d with
    | zero =>
      intro i nf h1 h2
      obtain ⟨nf, rfl⟩ : ∃ e, nf = e + 1 := ⟨nf - 1, by omega⟩
      have : i = yL Y := by omega
      subst this
      rw [F_X5_linksOf_L11, h.2.2.1, if_pos (by rw [I_leN (by omega) (by omega)]; omega)]
    | succ d ih =>
      intro i nf h1 h2
      obtain ⟨nf, rfl⟩ : ∃ e, nf = e + 1 := ⟨nf - 1, by omega⟩
      have a := lkM_lt (Y := Y) (ρ := ρ) i
      have b := lkN_lt Y i (ρ i)
      rw [F_X5_linksOf_L11, h.2.2.1, if_neg (by rw [I_leN (by omega) (by omega)]; omega), c_partnerIn (by omega), Option.bind_some, zz_row L12 hr (by omega), c_link h ok (by omega) (hr i (by omega)), Option.bind_some]
      simp only [bnd, I_suc, I_or (show lkM Y ρ i < 2147483648 by omega) (show lkN Y i (ρ i) < 2147483648 by omega), ← lkM_s]
      exact ih (i + 1) nf (by omega) (by omega)
  unfold F_X5_linksOf
  simp only [bnd, h.2.1]
  have := lp (yL Y - yN Y) (yN Y) f (by omega) (by omega)
  rw [lkM_N _ (Nat.le_refl _)] at this
  exact this
theorem c_hangs (h : lyC S t Y) (ok : yOk Y) {m : Nat} (hm : m < 8) : F_X4_hangs sh f S t (I m) = some (if yV Y ≤ popN 12 m + 1 then 1 else 0) := by
  have v := ok.2.2.2.1
  have p := popN_le 12 m
  have e : I (yV Y : Int) - 1 = I ((yV Y - 1 : Nat) : Int) := by
    rw [show (1 : Int32) = I 1 from rfl, I_sub]; congr 1; omega
  unfold F_X4_hangs
  have q : (I (popN 12 m : Int) < I ((yV Y - 1 : Nat) : Int)) = (popN 12 m < yV Y - 1) := I_ltN (by omega) (by omega)
  rw [c_pop (by omega), Option.bind_some, h.1, e]
  simp only [q]
  by_cases c : yV Y ≤ popN 12 m + 1
  · rw [if_pos c, if_neg (by omega)]
  · rw [if_neg c, if_pos (by omega)]
theorem pop3 (p : Nat → Bool) : popN 12 (mkb p 3) = (if p 0 = true then 1 else 0) + (if p 1 = true then 1 else 0) + (if p 2 = true then 1 else 0) := by
  have : mkb p 3 = (0 ||| (if p 0 = true then 2 ^ 0 else 0) ||| (if p 1 = true then 2 ^ 1 else 0)) ||| (if p 2 = true then 2 ^ 2 else 0) := rfl
  rw [this]
  cases p 0 <;> cases p 1 <;> cases p 2 <;> decide
theorem lkB_iff (ok : yOk Y) (w : yRw Y ρ) {p q : Nat} (hpq : p < q) (hq : q < 3) : ((List.range (yL Y)).any (fun i => lkN Y i (ρ i) == 2 ^ (p + q - 1))) = true ↔ Lk Y ρ p q := by
  rw [List.any_eq_true]
  constructor
  · rintro ⟨i, hi, e⟩
    have hi := List.mem_range.mp hi
    rw [beq_iff_eq] at e
    unfold lkN at e
    by_cases c : i < yN Y ∨ ρ i < yN Y ∨ yP Y i = yP Y (ρ i)
    · rw [if_pos c] at e
      have := Nat.two_pow_pos (p + q - 1)
      omega
    · rw [if_neg c] at e
      have e := p2_inj e
      have a := yP_lt Y i
      have b := yP_lt Y (ρ i)
      by_cases d : yP Y i = p
      · exact ⟨i, by omega, hi, by omega, d, by omega⟩
      · exact Lk_sym w ⟨i, by omega, hi, by omega, by omega, by omega⟩
  · rintro ⟨i, h1, h2, h3, h4, h5⟩
    refine ⟨i, List.mem_range.mpr h2, ?_⟩
    rw [beq_iff_eq]
    unfold lkN
    rw [if_neg (by omega), h4, h5]
theorem hang_iff (ok : yOk Y) (w : yRw Y ρ) : yV Y ≤ popN 12 (lkM Y ρ (yL Y)) + 1 ↔ hgP Y ρ := by
  have v := ok.2.2.2.1
  have b0 := lkB_iff ok w (p := 0) (q := 1) (by omega) (by omega)
  have b1 := lkB_iff ok w (p := 0) (q := 2) (by omega) (by omega)
  have b2 := lkB_iff ok w (p := 1) (q := 2) (by omega) (by omega)
  simp only [Nat.reduceAdd, Nat.reduceSub] at b0 b1 b2
  unfold lkM
  rw [pop3]
  generalize (List.range (yL Y)).any (fun i => lkN Y i (ρ i) == 2 ^ 0) = x0 at *
  generalize (List.range (yL Y)).any (fun i => lkN Y i (ρ i) == 2 ^ 1) = x1 at *
  generalize (List.range (yL Y)).any (fun i => lkN Y i (ρ i) == 2 ^ 2) = x2 at *
  have no : yV Y ≤ 2 → ¬ Lk Y ρ 0 2 ∧ ¬ Lk Y ρ 1 2 := by
    intro v2
    constructor
    · rintro ⟨i, h1, h2, h3, h4, h5⟩
      have := (pt_a v h3 (yRw_lt w h2).1).1
      omega
    · rintro ⟨i, h1, h2, h3, h4, h5⟩
      have := (pt_a v h3 (yRw_lt w h2).1).1
      omega
  unfold hgP
  rw [← b0, ← b1, ← b2] at *
  have vv : yV Y = 1 ∨ yV Y = 2 ∨ yV Y = 3 := by omega
  rcases vv with vv | vv | vv <;> rw [vv] at no ⊢ <;> cases x0 <;> cases x1 <;> cases x2 <;> simp_all
end I9i
