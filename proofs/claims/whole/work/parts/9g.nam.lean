/-! HOW MANY namings. -/
def yFa (Y : Ly) (p : Nat) : Prop := 0 < p ∧ p < yV Y ∧ yU Y p = yU Y (p - 1)
def faB (Y : Ly) (p : Nat) : Bool := decide (0 < p) && (decide (p < yV Y) && (yU Y p == yU Y (p - 1)))
theorem faB_iff {Y : Ly} {p : Nat} : faB Y p = true ↔ yFa Y p := by
  unfold faB yFa
  rw [Bool.and_eq_true, Bool.and_eq_true, decide_eq_true_eq, decide_eq_true_eq, beq_iff_eq]
def rnN (Y : Ly) : Nat → Nat
  | 0 => 0
  | p + 1 => if faB Y p = true then rnN Y p + 1 else 1
def prN (Y : Ly) : Nat → Nat
  | 0 => 1
  | p + 1 => prN Y p * rnN Y (p + 1)
theorem prN_PP {Y : Ly} (ok : yOk Y) : prN Y (yV Y) = (yPP Y).length := by
  obtain ⟨_, _, _, ⟨v1, v3⟩, _, asc, _⟩ := ok
  have a1 : 1 < yV Y → yU Y 0 ≤ yU Y 1 := asc 0
  have a2 : 2 < yV Y → yU Y 1 ≤ yU Y 2 := asc 1
  have f0 : ¬ faB Y 0 = true := fun h => absurd (faB_iff.mp h).1 (by omega)
  have kb : ∀ s, s < 6 → (kpB Y s = true ↔ kp Y s) := fun s _ => kpB_iff
  have e : yPP Y = [0, 1, 2, 3, 4, 5].filter (kpB Y) := rfl
  have k0 : kpB Y 0 = true := by
    rw [kpB_iff]
    intro q hq
    have : q = 0 ∨ q = 1 ∨ q = 2 := by omega
    rcases this with rfl | rfl | rfl <;> exact ⟨fun h => ⟨h, rfl⟩, fun _ => rfl⟩
  have no : ∀ s, ¬ kp Y s → kpB Y s = false := fun s h => eq_false_of_ne_true (fun c => h (kpB_iff.mp c))
  have yes : ∀ s, kp Y s → kpB Y s = true := fun s h => kpB_iff.mpr h
  have kpx : ∀ s, (kp Y s ↔ ((0 < yV Y → spt s 0 < yV Y ∧ yU Y (spt s 0) = yU Y 0) ∧ (yV Y ≤ 0 → spt s 0 = 0)) ∧ ((1 < yV Y → spt s 1 < yV Y ∧ yU Y (spt s 1) = yU Y 1) ∧ (yV Y ≤ 1 → spt s 1 = 1)) ∧ ((2 < yV Y → spt s 2 < yV Y ∧ yU Y (spt s 2) = yU Y 2) ∧ (yV Y ≤ 2 → spt s 2 = 2))) := by
    intro s
    constructor
    · intro h
      exact ⟨h 0 (by omega), h 1 (by omega), h 2 (by omega)⟩
    · rintro ⟨h0, h1, h2⟩ q hq
      have : q = 0 ∨ q = 1 ∨ q = 2 := by omega
      rcases this with rfl | rfl | rfl
      · exact h0
      · exact h1
      · exact h2
  have t1 : spt 1 0 = 1 ∧ spt 1 1 = 0 ∧ spt 1 2 = 2 := by decide
  have t2 : spt 2 0 = 0 ∧ spt 2 1 = 2 ∧ spt 2 2 = 1 := by decide
  have t3 : spt 3 0 = 1 ∧ spt 3 1 = 2 ∧ spt 3 2 = 0 := by decide
  have t4 : spt 4 0 = 2 ∧ spt 4 1 = 0 ∧ spt 4 2 = 1 := by decide
  have t5 : spt 5 0 = 2 ∧ spt 5 1 = 1 ∧ spt 5 2 = 0 := by decide
  have p1 : kp Y 1 ↔ 2 ≤ yV Y ∧ yU Y 1 = yU Y 0 := by rw [kpx, t1.1, t1.2.1, t1.2.2]; omega
  have p2 : kp Y 2 ↔ yV Y = 3 ∧ yU Y 2 = yU Y 1 := by rw [kpx, t2.1, t2.2.1, t2.2.2]; omega
  have p3 : kp Y 3 ↔ yV Y = 3 ∧ yU Y 1 = yU Y 0 ∧ yU Y 2 = yU Y 1 := by rw [kpx, t3.1, t3.2.1, t3.2.2]; omega
  have p4 : kp Y 4 ↔ yV Y = 3 ∧ yU Y 1 = yU Y 0 ∧ yU Y 2 = yU Y 1 := by rw [kpx, t4.1, t4.2.1, t4.2.2]; omega
  have p5 : kp Y 5 ↔ yV Y = 3 ∧ yU Y 1 = yU Y 0 ∧ yU Y 2 = yU Y 1 := by rw [kpx, t5.1, t5.2.1, t5.2.2]; omega
  have b1 : faB Y 1 = true ↔ 2 ≤ yV Y ∧ yU Y 1 = yU Y 0 := by
    rw [faB_iff]
    show (0 < 1 ∧ 1 < yV Y ∧ yU Y 1 = yU Y 0) ↔ _
    omega
  have b2 : faB Y 2 = true ↔ 3 ≤ yV Y ∧ yU Y 2 = yU Y 1 := by
    rw [faB_iff]
    show (0 < 2 ∧ 2 < yV Y ∧ yU Y 2 = yU Y 1) ↔ _
    omega
  rw [e]
  have vv : yV Y = 1 ∨ yV Y = 2 ∨ yV Y = 3 := by omega
  have n1 : ∀ s, kpB Y s = true ↔ kp Y s := fun s => kpB_iff
  by_cases c1 : yU Y 1 = yU Y 0 <;> by_cases c2 : yU Y 2 = yU Y 1 <;> rcases vv with v | v | v
  all_goals
    have q1 : kpB Y 1 = decide (kpB Y 1 = true) := by simp
    have q2 : kpB Y 2 = decide (kpB Y 2 = true) := by simp
    have q3 : kpB Y 3 = decide (kpB Y 3 = true) := by simp
    have q4 : kpB Y 4 = decide (kpB Y 4 = true) := by simp
    have q5 : kpB Y 5 = decide (kpB Y 5 = true) := by simp
    have g0 : faB Y 0 = false := eq_false_of_ne_true f0
    have g1 : faB Y 1 = decide (faB Y 1 = true) := by simp
    have g2 : faB Y 2 = decide (faB Y 2 = true) := by simp
    simp only [n1, p1, p2, p3, p4, p5, v, c1, c2] at q1 q2 q3 q4 q5
    simp only [b1, b2, v, c1, c2] at g1 g2
    simp only [List.filter_cons, List.filter_nil, k0, q1, q2, q3, q4, q5, v, prN, rnN, g0, g1, g2]
    first
      | (simp; done)
      | (rw [c1] at c2; simp [c2]; done)
theorem Hn_succ (fi : Nat → Nat) (m : Nat) : Hn fi (List.range (m + 1)) = (1 + (List.range m).countP (fun j => fi j == fi m)) * Hn fi (List.range m) := by
  have p : (List.range (m + 1)).Perm (m :: List.range m) := by
    rw [List.range_succ]
    exact List.perm_append_comm
  rw [Hn_perm p, Hn]
theorem Hn_ends {Y : Ly} : ∀ m, m ≤ yN Y → Hn (yF Y) (List.range m) = 1
  | 0, _ => rfl
  | m + 1, h => by
    have z : (List.range m).countP (fun j => yF Y j == yF Y m) = 0 := by
      rw [List.countP_eq_zero]
      intro j hj
      have := List.mem_range.mp hj
      rw [f_out (Or.inl (show j < yN Y by omega)), f_out (Or.inl (show m < yN Y by omega)), beq_iff_eq]
      omega
    rw [Hn_succ, Hn_ends m (by omega), z]
section G9g
variable {sh : List Sh} {f : Nat} {Y : Ly} {t : Nat} {S : St}
theorem c_fol (v3 : yV Y ≤ 3) (s7 : sI S t 7 = I (yV Y)) (ru : ∀ p, p < yV Y → sA S (t + 6) p = I (yU Y p)) (u4 : ∀ p, p < yV Y → yU Y p < 4) {p : Nat} (hp : p < 3) : F_X4_followsAlike sh f S t (I p) = some (if faB Y p = true then 1 else 0) := by
  have pcl : (I (p : Int)).toNatClampNeg = p := I_clN (by omega)
  have q0 : (I (p : Int) ≤ 0) = (p = 0) := by
    rw [show (0 : Int32) = I ((0 : Nat) : Int) from rfl, I_leN (by omega) (by omega)]
    exact propext ⟨fun h => by omega, fun h => by omega⟩
  have q1 : (I (yV Y : Int) ≤ I p) = (yV Y ≤ p) := I_leN (by omega) (by omega)
  have p0 : ¬ (I (p : Int) < 0 ∨ 3 ≤ p) := by
    rw [show (0 : Int32) = I 0 from rfl, I_lt (by omega) (by omega)]; omega
  unfold F_X4_followsAlike
  simp only [q0, s7, q1, pcl]
  by_cases c : p = 0
  · rw [if_pos c, if_neg (fun h => absurd (faB_iff.mp h).1 (by omega))]
  · rw [if_neg c]
    by_cases d : yV Y ≤ p
    · rw [if_pos d, if_neg (fun h => absurd (faB_iff.mp h).2.1 (by omega))]
    · have pm : I (p : Int) - 1 = I ((p - 1 : Nat) : Int) := by
        rw [show (1 : Int32) = I 1 from rfl, I_sub]; congr 1; omega
      have mcl : (I ((p - 1 : Nat) : Int)).toNatClampNeg = p - 1 := I_clN (by omega)
      have m0 : ¬ (I ((p - 1 : Nat) : Int) < 0 ∨ 3 ≤ p - 1) := by
        rw [show (0 : Int32) = I 0 from rfl, I_lt (by omega) (by omega)]; omega
      have q : (I (yU Y p : Int) = I (yU Y (p - 1))) = (yU Y p = yU Y (p - 1)) := I_eqN (by have := u4 p (by omega); omega) (by have := u4 (p - 1) (by omega); omega)
      simp only [if_neg d, if_neg p0, pm, mcl, if_neg m0, ru p (by omega), ru (p - 1) (by omega), q]
      by_cases g : yU Y p = yU Y (p - 1)
      · rw [if_pos g, if_pos (faB_iff.mpr ⟨by omega, by omega, g⟩)]
      · rw [if_neg g, if_neg (fun h => g (faB_iff.mp h).2.2)]
theorem c_fol1 : F_X4_followsAlike sh f S t (-1) = some 0 := by
  unfold F_X4_followsAlike
  rw [if_pos (by decide)]
theorem c_names (hf : 1000 ≤ f) (ok : yOk Y) (s7 : sI S t 7 = I (yV Y)) (s8 : sI S t 8 = I (yN Y)) (s9 : sI S t 9 = I (yL Y)) (ru : ∀ p, p < yV Y → sA S (t + 6) p = I (yU Y p)) (al : ∀ i, i < yL Y → sA S (t + 4) i = I (mkb (yAl Y i) (yL Y))) : F_X4_countNamings sh f S t = some (uI S t 12 (I (((yPP Y).length * Hn (yF Y) (List.range (yL Y)) : Nat) : Int))) := by
  have v3 := ok.2.2.2.1.2
  have L12 := ok.2.2.2.2.2.2.1
  have nl := N_le ok
  have u4 : ∀ p, p < yV Y → yU Y p < 4 := fun p hp => by
    have := ok.2.2.2.2.1 p hp
    have := ok.1.2.1
    omega
  have uu : ∀ (x y : Int32), uI (uI S t 12 x) t 12 y = uI S t 12 y := by
    intro x y
    unfold uI
    have : up2 (up2 S.2.2.1 t 12 x) t 12 y = up2 S.2.2.1 t 12 y := by
      funext a
      funext c
      by_cases h : a = t
      · subst h
        by_cases g : c = 12
        · subst g; rw [up2_self, up2_self]
        · rw [up2_ne _ _ _ g, up2_ne _ _ _ g, up2_ne _ _ _ g]
      · rw [up2_row _ _ _ h, up2_row _ _ _ h, up2_row _ _ _ h]
    show (S.1, S.2.1, up2 (up2 S.2.2.1 t 12 x) t 12 y, S.2.2.2) = _
    rw [this]
  have legs : ∀ (d i nf : Nat), i + d = yL Y → d < nf → yN Y ≤ i → ∀ K : Nat, F_X4_countNamings_L54 sh f t nf (uI S t 12 (I ((K * Hn (yF Y) (List.range i) : Nat) : Int))) (I i) = some (uI S t 12 (I ((K * Hn (yF Y) (List.range (yL Y)) : Nat) : Int))) := by
    intro d
    induction d with
    | zero =>
      intro i nf h1 h2 h3 K
      obtain ⟨nf, rfl⟩ : ∃ e, nf = e + 1 := ⟨nf - 1, by omega⟩
      have : i = yL Y := by omega
      subst this
      rw [F_X4_countNamings_L54, sI_ne _ _ _ (by omega), s9, if_pos (by rw [I_leN (by omega) (by omega)]; omega)]
    | succ d ih =>
      intro i nf h1 h2 h3 K
      obtain ⟨nf, rfl⟩ : ∃ e, nf = e + 1 := ⟨nf - 1, by omega⟩
      have c1 : ¬ I (yL Y : Int) ≤ I i := by rw [I_leN (by omega) (by omega)]; omega
      have icl : (I (i : Int)).toNatClampNeg = i := I_clN (by omega)
      have i0 : ¬ (I (i : Int) < 0 ∨ 12 ≤ i) := by
        rw [show (0 : Int32) = I 0 from rfl, I_lt (by omega) (by omega)]; omega
      have nx : I (i : Int) + 1 = I ((i + 1 : Nat) : Int) := by rw [show (1 : Int32) = I 1 from rfl, I_add]; rfl
      have p2 : 2 ^ i ≤ 2 ^ 11 := Nat.pow_le_pow_right (by omega) (by omega)
      have p3 : 2 ^ (i + 1) = 2 * 2 ^ i := by rw [Nat.pow_succ, Nat.mul_comm]
      have p4 : 0 < 2 ^ i := Nat.two_pow_pos i
      have m2 : (2 : Int32) <<< (I i &&& 31) - 1 = I ((2 ^ (i + 1) - 1 : Nat) : Int) := by
        rw [show (2 : Int32) = I ((2 : Nat) : Int) from rfl, I_shl (by omega) (by omega), show (1 : Int32) = I 1 from rfl, I_sub]
        congr 1
        omega
      have lm := mkb_lt (yAl Y i) (yL Y)
      have pL : 2 ^ yL Y ≤ 2 ^ 12 := Nat.pow_le_pow_right (by omega) L12
      have an : mkb (yAl Y i) (yL Y) &&& (2 ^ (i + 1) - 1) = mkb (yAl Y i) (i + 1) := by
        apply Nat.eq_of_testBit_eq
        intro j
        rw [Nat.testBit_and, mkb_tb, mkb_tb, Nat.testBit_two_pow_sub_one]
        by_cases c : j < i + 1
        · rw [decide_eq_true c, decide_eq_true (show j < yL Y by omega), Bool.and_true]
        · rw [decide_eq_false c, Bool.and_false, Bool.false_and]
      have lm1 := mkb_lt (yAl Y i) (i + 1)
      have pc : F_J6_bitCount_0f7a4 sh f (uI S t 12 (I ((K * Hn (yF Y) (List.range i) : Nat) : Int))) (I (mkb (yAl Y i) (yL Y)) &&& I ((2 ^ (i + 1) - 1 : Nat) : Int)) = some (I ((1 + (List.range i).countP (fun j => yF Y j == yF Y i) : Nat) : Int)) := by
        rw [I_and (by omega) (by omega), an, c_pop (by omega)]
        congr 2
        have e1 := pop_tb (mkb (yAl Y i) (i + 1)) 12
        have e2 : (List.range 12).countP (fun j => (mkb (yAl Y i) (i + 1)).testBit j) = (List.range (i + 1)).countP (fun j => yF Y j == yF Y i) := by
          have ra : ∀ e, (List.range (i + 1 + e)).countP (fun j => (mkb (yAl Y i) (i + 1)).testBit j) = (List.range (i + 1)).countP (fun j => yF Y j == yF Y i) := by
            intro e
            induction e with
            | zero =>
              apply countP_cg
              intro j hj
              rw [mkb_tb, decide_eq_true (List.mem_range.mp hj), Bool.true_and]
              rfl
            | succ e ih =>
              rw [show i + 1 + (e + 1) = i + 1 + e + 1 by omega, List.range_succ, List.countP_append, ih, List.countP_singleton, mkb_tb, decide_eq_false (by omega), Bool.false_and]
              rfl
          have := ra (12 - (i + 1))
          rw [show i + 1 + (12 - (i + 1)) = 12 by omega] at this
          exact this
        rw [e1, e2, List.range_succ, List.countP_append, List.countP_singleton, beq_self_eq_true]
        simp only [if_true]
        omega
      rw [F_X4_countNamings_L54, sI_ne _ _ _ (by omega), s9, if_neg c1]
      simp only [icl, if_neg i0, sA_uI, al i (by omega), m2, pc, Option.bind_some, bnd, sI_self, nx, uu, I_mul]
      have e : ((K * Hn (yF Y) (List.range i) : Nat) : Int) * ((1 + (List.range i).countP (fun j => yF Y j == yF Y i) : Nat) : Int) = ((K * Hn (yF Y) (List.range (i + 1)) : Nat) : Int) := by
        rw [Hn_succ]
        norm_cast
        rw [Nat.mul_assoc, Nat.mul_comm (Hn _ _)]
      rw [e]
      exact ih (i + 1) nf (by omega) (by omega) (by omega) K
  have pts : ∀ (d p nf : Nat), p + d = yV Y → d < nf → F_X4_countNamings_L9 sh f t nf (uI S t 12 (I (prN Y p : Int))) (I (rnN Y p : Int)) (I p) = some (uI S t 12 (I ((prN Y (yV Y) * Hn (yF Y) (List.range (yL Y)) : Nat) : Int))) := by
    intro d
    induction d with
    | zero =>
      intro p nf h1 h2
      obtain ⟨nf, rfl⟩ : ∃ e, nf = e + 1 := ⟨nf - 1, by omega⟩
      have : p = yV Y := by omega
      subst this
      rw [F_X4_countNamings_L9, sI_ne _ _ _ (by omega), s7, if_pos (by rw [I_leN (by omega) (by omega)]; omega)]
      simp only [bnd, sI_ne S t (I (prN Y (yV Y) : Int)) (show 8 ≠ 12 by omega), s8]
      have := legs (yL Y - yN Y) (yN Y) f (by omega) (by omega) (Nat.le_refl _) (prN Y (yV Y))
      rw [Hn_ends _ (Nat.le_refl _), Nat.mul_one] at this
      exact this
    | succ d ih =>
      intro p nf h1 h2
      obtain ⟨nf, rfl⟩ : ∃ e, nf = e + 1 := ⟨nf - 1, by omega⟩
      have c1 : ¬ I (yV Y : Int) ≤ I p := by rw [I_leN (by omega) (by omega)]; omega
      have nx : I (p : Int) + 1 = I ((p + 1 : Nat) : Int) := by rw [show (1 : Int32) = I 1 from rfl, I_add]; rfl
      have fo := c_fol (sh := sh) (f := f) (Y := Y) (t := t) (S := uI S t 12 (I (prN Y p : Int))) v3 (by rw [sI_ne _ _ _ (by omega), s7]) ru u4 (show p < 3 by omega)
      have ih' := ih (p + 1) nf (by omega) (by omega)
      rw [prN, rnN] at ih'
      rw [F_X4_countNamings_L9, sI_ne _ _ _ (by omega), s7, if_neg c1, fo]
      simp only [Option.bind_some, bnd, sI_self, uu, nx]
      by_cases c : faB Y p = true
      · rw [if_pos c] at ih' ⊢
        have r1 : I (rnN Y p : Int) + 1 = I ((rnN Y p + 1 : Nat) : Int) := by rw [show (1 : Int32) = I 1 from rfl, I_add]; rfl
        rw [if_neg (by decide), r1, I_mul]
        exact ih'
      · rw [if_neg c] at ih' ⊢
        rw [if_pos rfl, show (1 : Int32) = I ((1 : Nat) : Int) from rfl, I_mul]
        exact ih'
  have := pts (yV Y) 0 f (by omega) (by omega)
  rw [prN_PP ok] at this
  exact this
end G9g
