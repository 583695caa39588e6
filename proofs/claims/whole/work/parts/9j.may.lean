/-! MAY JOIN, MAY LEAD, signs, keeps rules, swapped. -/
section J9j
variable {sh : List Sh} {f : Nat} {S : St} {t : Nat} {Y : Ly} {ρ : Nat → Nat}
theorem and_lt12 {a b : Nat} (h : a < 4096) : a &&& b < 4096 := Nat.lt_of_le_of_lt Nat.and_le_left h
theorem c_mayJoin (h : lyC S t Y) (ok : yOk Y) {i j m : Nat} (hi : i < yL Y) (hj : j < yL Y) (hm : m < 4096) : F_X4_mayJoin sh f S t (I i) (I j) (I m) = some (if m.testBit j = true ∧ yMj Y i j = true then 1 else 0) := by
  have L12 := ok.2.2.2.2.2.2.1
  have icl : (I (i : Int)).toNatClampNeg = i := I_clN (by omega)
  have l := mkb_lt (yMj Y i) (yL Y)
  have q : 2 ^ yL Y ≤ 2 ^ 12 := Nat.pow_le_pow_right (by omega) L12
  unfold F_X4_mayJoin
  simp only [icl, if_neg (I_bnd (show i < 12 by omega) (by omega)), (h.2.2.2.2.2.2.1 i hi).2.2.2.2, I_and (show m < 2147483648 by omega) (show mkb (yMj Y i) (yL Y) < 2147483648 by omega), I_bit (and_lt12 hm) (show j < 12 by omega), Nat.testBit_and, mkb_tb, decide_eq_true hj, Bool.true_and]
  by_cases c : m.testBit j = true ∧ yMj Y i j = true
  · rw [if_pos c, c.1, c.2]; rfl
  · rw [if_neg c, if_pos]
    rw [Bool.and_eq_false_iff]
    by_cases d : m.testBit j = true
    · exact Or.inr (eq_false_of_ne_true (fun e => c ⟨d, e⟩))
    · exact Or.inl (eq_false_of_ne_true d)
def mlP (Y : Ly) (i j m u : Nat) : Prop := m.testBit j = true ∧ yMj Y i j = true ∧ (∀ x, x < j → m.testBit x = true → yF Y x ≠ yF Y j) ∧ (yN Y ≤ j → faB Y (yP Y j) = true → (u ||| pB Y i).testBit (yP Y j - 1) = true ∨ (u ||| pB Y i).testBit (yP Y j) = true)
theorem and3 : ∀ w : Fin 8, ∀ k : Fin 2, (w.val / 2 ^ k.val &&& 3 = 0) ↔ (w.val.testBit k.val = false ∧ w.val.testBit (k.val + 1) = false) := by decide +kernel
theorem c_mayLead (h : lyC S t Y) (ok : yOk Y) {i j m u : Nat} (hi : i < yL Y) (hj : j < yL Y) (hm : m < 2 ^ yL Y) (hu : u < 8) : ∃ r, F_X4_mayLead sh f S t (I i) (I j) (I m) (I u) = some r ∧ (mlP Y i j m u → r = 1) ∧ (¬ mlP Y i j m u → r = 0) := by
  have L12 := ok.2.2.2.2.2.2.1
  have v3 := ok.2.2.2.1.2
  have u4 : ∀ p, p < yV Y → yU Y p < 4 := fun p hp => by
    have := ok.2.2.2.2.1 p hp
    have := ok.1.2.1
    omega
  have q : 2 ^ yL Y ≤ 2 ^ 12 := Nat.pow_le_pow_right (by omega) L12
  have l := mkb_lt (yAl Y j) (yL Y)
  have jcl : (I (j : Int)).toNatClampNeg = j := I_clN (by omega)
  have pj : 2 ^ j ≤ 2 ^ 11 := Nat.pow_le_pow_right (by omega) (by omega)
  have p0 : 0 < 2 ^ j := Nat.two_pow_pos j
  have e1 : ((1 : Int32) <<< (I (j : Int) &&& 31)) - 1 = I ((2 ^ j - 1 : Nat) : Int) := by
    rw [one_shl (by omega), show (1 : Int32) = I 1 from rfl, I_sub]; congr 1; omega
  have y3 := yP_lt Y j
  have pb := pB_lt Y i
  have ub : u ||| pB Y i < 8 := Nat.or_lt_two_pow (n := 3) hu pb
  unfold F_X4_mayLead
  rw [c_mayJoin h ok hi hj (by omega), Option.bind_some]
  by_cases c : m.testBit j = true ∧ yMj Y i j = true
  · rw [if_pos c, if_neg (by decide)]
    have al : ((I (m : Int) &&& sA S (t + 4) (I (j : Int)).toNatClampNeg) &&& (((1 : Int32) <<< (I (j : Int) &&& 31)) - 1) = 0) = (∀ x, x < j → m.testBit x = true → yF Y x ≠ yF Y j) := by
      rw [jcl, (h.2.2.2.2.2.2.1 j hj).2.2.2.1, e1, I_and (by omega) (by omega), I_and (by have := and_lt12 (b := mkb (yAl Y j) (yL Y)) (show m < 4096 by omega); omega) (by omega), show (0 : Int32) = I ((0 : Nat) : Int) from rfl, I_eqN (by have := and_lt12 (b := 2 ^ j - 1) (and_lt12 (b := mkb (yAl Y j) (yL Y)) (show m < 4096 by omega)); omega) (by omega)]
      apply propext
      constructor
      · intro z x hx mx e
        have := congrArg (fun a => a.testBit x) z
        simp only [Nat.testBit_and, mkb_tb, Nat.testBit_two_pow_sub_one, Nat.zero_testBit, mx, decide_eq_true hx, decide_eq_true (show x < yL Y by omega), Bool.true_and, Bool.and_true] at this
        unfold yAl at this
        rw [beq_eq_false_iff_ne] at this
        exact this e
      · intro g
        apply Nat.eq_of_testBit_eq
        intro x
        rw [Nat.testBit_and, Nat.testBit_and, mkb_tb, Nat.testBit_two_pow_sub_one, Nat.zero_testBit]
        by_cases d : x < j
        · by_cases d2 : m.testBit x = true
          · have := g x d d2
            unfold yAl
            rw [d2, decide_eq_true d, decide_eq_true (show x < yL Y by omega), beq_eq_false_iff_ne.mpr this]
            rfl
          · rw [eq_false_of_ne_true d2]; rfl
        · rw [decide_eq_false d, Bool.and_false]
    have b12 : ¬ (I (j : Int) < 0 ∨ 12 ≤ (I (j : Int)).toNatClampNeg) := by rw [jcl]; exact I_bnd (by omega) (by omega)
    rw [if_neg b12, if_neg b12]
    simp only [al]
    by_cases d : ∀ x, x < j → m.testBit x = true → yF Y x ≠ yF Y j
    · rw [if_pos d, jcl, (h.2.2.2.2.2.2.1 j hj).2.1, c_pointBit h ok hi]
      simp only [bnd, Option.bind_some]
      rw [I_or (by omega) (by omega)]
      by_cases g : j < yN Y
      · have : pI Y j = -1 := by unfold pI; rw [if_pos g]
        rw [this, c_fol1, Option.bind_some, if_pos rfl]
        exact ⟨1, rfl, fun _ => rfl, fun hn => absurd ⟨c.1, c.2, d, fun x => by omega⟩ hn⟩
      · have : pI Y j = I (yP Y j) := by unfold pI; rw [if_neg g]
        rw [this, c_fol v3 h.1 (fun p hp => (h.2.2.2.2.2.2.2 p hp).1) u4 y3, Option.bind_some]
        by_cases g2 : faB Y (yP Y j) = true
        · rw [if_pos g2, if_neg (by decide)]
          have pos := (faB_iff.mp g2).1
          have pm : I (yP Y j : Int) - 1 = I ((yP Y j - 1 : Nat) : Int) := by
            rw [show (1 : Int32) = I 1 from rfl, I_sub]; congr 1; omega
          have a3 := and3 ⟨u ||| pB Y i, ub⟩ ⟨yP Y j - 1, by omega⟩
          simp only [show yP Y j - 1 + 1 = yP Y j by omega] at a3
          have dl : (u ||| pB Y i) / 2 ^ (yP Y j - 1) ≤ u ||| pB Y i := Nat.div_le_self _ _
          have key : ((I ((u ||| pB Y i : Nat) : Int) >>> ((I (yP Y j : Int) - 1) &&& 31)) &&& 3 = 0) = ((u ||| pB Y i).testBit (yP Y j - 1) = false ∧ (u ||| pB Y i).testBit (yP Y j) = false) := by
            rw [pm, I_shr (by omega) (by omega), ← propext a3]
            generalize (u ||| pB Y i) / 2 ^ (yP Y j - 1) = z at dl
            have zl : z &&& 3 ≤ z := Nat.and_le_left
            rw [show (3 : Int32) = I ((3 : Nat) : Int) from rfl, I_and (by omega) (by omega), show (0 : Int32) = I ((0 : Nat) : Int) from rfl, I_eqN (by omega) (by omega)]
          simp only [key]
          by_cases g3 : (u ||| pB Y i).testBit (yP Y j - 1) = false ∧ (u ||| pB Y i).testBit (yP Y j) = false
          · rw [if_pos g3]
            refine ⟨0, rfl, fun hp => ?_, fun _ => rfl⟩
            have := hp.2.2.2 (by omega) g2
            rw [g3.1, g3.2] at this
            simp at this
          · rw [if_neg g3]
            refine ⟨1, rfl, fun _ => rfl, fun hn => absurd ⟨c.1, c.2, d, fun _ _ => ?_⟩ hn⟩
            by_cases g4 : (u ||| pB Y i).testBit (yP Y j - 1) = true
            · exact Or.inl g4
            · right
              apply Classical.byContradiction
              intro g5
              exact g3 ⟨eq_false_of_ne_true g4, eq_false_of_ne_true g5⟩
        · rw [if_neg g2, if_pos rfl]
          exact ⟨1, rfl, fun _ => rfl, fun hn => absurd ⟨c.1, c.2, d, fun _ e => absurd e g2⟩ hn⟩
    · rw [if_neg d]
      exact ⟨0, rfl, fun hp => absurd hp.2.2.1 d, fun _ => rfl⟩
  · rw [if_neg c, if_pos rfl]
    exact ⟨0, rfl, fun hp => absurd ⟨hp.1, hp.2.1⟩ c, fun _ => rfl⟩
/-- the sign that a join brings -/
def sgN (Y : Ly) (i j m : Nat) : Int := if yHa Y i = true then (if ((List.range j).countP (fun x => m.testBit x && yHa Y x) + (if ySe Y i = true then 1 else 0)) % 2 = 0 then 1 else -1) else 1
theorem sgN_pm (Y : Ly) (i j m : Nat) : sgN Y i j m = 1 ∨ sgN Y i j m = -1 := by
  unfold sgN
  by_cases c : yHa Y i = true
  · rw [if_pos c]
    by_cases d : ((List.range j).countP (fun x => m.testBit x && yHa Y x) + (if ySe Y i = true then 1 else 0)) % 2 = 0
    · rw [if_pos d]; exact Or.inl rfl
    · rw [if_neg d]; exact Or.inr rfl
  · rw [if_neg c]; exact Or.inl rfl
theorem cnt_ext (p : Nat → Bool) {j : Nat} (hp : ∀ x, j ≤ x → p x = false) : ∀ d, (List.range (j + d)).countP p = (List.range j).countP p
  | 0 => rfl
  | d + 1 => by
    rw [show j + (d + 1) = j + d + 1 by omega, List.range_succ, List.countP_append, cnt_ext p hp d, List.countP_singleton, hp _ (by omega)]
    rfl
theorem c_signOf (h : lyC S t Y) (ok : yOk Y) {i j m : Nat} (hi : i < yL Y) (hj : j < yL Y) (hm : m < 2 ^ yL Y) : F_X4_signOf sh f S t (I i) (I j) (I m) = some (I (sgN Y i j m)) := by
  have L12 := ok.2.2.2.2.2.2.1
  have q : 2 ^ yL Y ≤ 2 ^ 12 := Nat.pow_le_pow_right (by omega) L12
  have l := mkb_lt (yHa Y) (yL Y)
  have l2 := mkb_lt (ySe Y) (yL Y)
  have pj : 2 ^ j ≤ 2 ^ 11 := Nat.pow_le_pow_right (by omega) (by omega)
  have p0 : 0 < 2 ^ j := Nat.two_pow_pos j
  have e1 : ((1 : Int32) <<< (I (j : Int) &&& 31)) - 1 = I ((2 ^ j - 1 : Nat) : Int) := by
    rw [one_shl (by omega), show (1 : Int32) = I 1 from rfl, I_sub]; congr 1; omega
  have x1 := and_lt12 (b := mkb (yHa Y) (yL Y)) (show m < 4096 by omega)
  have x2 := and_lt12 (b := 2 ^ j - 1) x1
  unfold F_X4_signOf
  simp only [h.2.2.2.1, h.2.2.2.2.1, I_bit (show mkb (yHa Y) (yL Y) < 4096 by omega) (show i < 12 by omega), mkb_tb, decide_eq_true hi, Bool.true_and, e1]
  rw [I_and (by omega) (by omega), I_and (by omega) (by omega), c_pop x2, Option.bind_some]
  unfold sgN
  by_cases c : yHa Y i = true
  · rw [if_neg (by rw [c]; decide), if_pos c]
    have cnt : popN 12 (m &&& mkb (yHa Y) (yL Y) &&& 2 ^ j - 1) = (List.range j).countP (fun x => m.testBit x && yHa Y x) := by
      have E := cnt_ext (fun x => (m &&& mkb (yHa Y) (yL Y) &&& 2 ^ j - 1).testBit x) (j := j) (fun x hx => by
        rw [Nat.testBit_and, Nat.testBit_two_pow_sub_one, decide_eq_false (by omega), Bool.and_false]) (12 - j)
      rw [show j + (12 - j) = 12 by omega] at E
      rw [pop_tb, E]
      apply countP_cg
      intro x hx
      have hx := List.mem_range.mp hx
      rw [Nat.testBit_and, Nat.testBit_and, mkb_tb, Nat.testBit_two_pow_sub_one, decide_eq_true hx, decide_eq_true (show x < yL Y by omega), Bool.and_true, Bool.true_and]
    rw [cnt]
    generalize hc : (List.range j).countP (fun x => m.testBit x && yHa Y x) = k
    have kb : k ≤ 12 := by
      rw [← cnt] at hc
      have := popN_le 12 (m &&& mkb (yHa Y) (yL Y) &&& 2 ^ j - 1)
      omega
    have sb : (I (mkb (ySe Y) (yL Y) : Int) >>> (I (i : Int) &&& 31)) &&& 1 = I ((if ySe Y i = true then 1 else 0 : Nat) : Int) := by
      have key : ∀ d : Nat, d = mkb (ySe Y) (yL Y) / 2 ^ i → I (d : Int) &&& 1 = I ((if ySe Y i = true then 1 else 0 : Nat) : Int) := by
        intro d hd
        have h1 : d ≤ mkb (ySe Y) (yL Y) := by rw [hd]; exact Nat.div_le_self _ _
        have tb := mkb_tb (ySe Y) i (yL Y)
        rw [Nat.testBit_eq_decide_div_mod_eq, decide_eq_true hi, Bool.true_and, ← hd] at tb
        rw [show (1 : Int32) = I ((1 : Nat) : Int) from rfl, I_and (by omega) (by omega), Nat.and_one_is_mod]
        by_cases g : ySe Y i = true
        · rw [g] at tb
          rw [if_pos g, of_decide_eq_true tb]
        · rw [eq_false_of_ne_true g] at tb
          have := of_decide_eq_false tb
          rw [if_neg g, show d % 2 = 0 by omega]
      rw [I_shr (by omega) (by omega)]
      exact key _ rfl
    simp only [bnd, sb]
    have zb : (if ySe Y i = true then 1 else 0 : Nat) ≤ 1 := by
      by_cases g : ySe Y i = true
      · rw [if_pos g]; omega
      · rw [if_neg g]; omega
    generalize (if ySe Y i = true then 1 else 0 : Nat) = z at *
    have q2 : I (k : Int) + I (z : Int) = I ((k + z : Nat) : Int) := by rw [I_add]; rfl
    have q3 : (I ((k + z : Nat) : Int) - I ((k + z : Nat) : Int) / 2 * 2 = 0) = ((k + z) % 2 = 0) := by
      rw [show (2 : Int32) = I 2 from rfl, show (0 : Int32) = I 0 from rfl, I_div (by omega) (by omega), I_mul, I_sub, I_eq (by omega) (by omega)]
      exact propext ⟨fun h => by omega, fun h => by omega⟩
    rw [q2]
    simp only [q3]
    by_cases g : (k + z) % 2 = 0
    · rw [if_pos g, if_pos g]; rfl
    · rw [if_neg g, if_neg g]; rfl
  · rw [if_pos (eq_false_of_ne_true c), if_neg c]; rfl
end J9j
