section P66
variable {sh : List Sh} {f : Nat} {S : St} {T : Nat → Int} {e d u m : Nat} {D : Dr} {k : TK} {B : Bk}
def hfT (B : Bk) (g : Nat → Nat) (j n : Nat) : Prop := ∃ i, j ≤ i ∧ i < n ∧ bS B (g i) = 2 ∧ ∃ l, l < i ∧ g l = g i
theorem halfTw_iff {g : Nat → Nat} {n : Nat} : halfTw B g n = true ↔ hfT B g 0 n := by
  unfold halfTw hfT
  simp only [List.any_eq_true, List.mem_range, Bool.and_eq_true, decide_eq_true_eq]
  constructor
  · rintro ⟨i, h1, h2, l, h3, h4⟩
    exact ⟨i, Nat.zero_le _, h1, h2, l, h3, h4⟩
  · rintro ⟨i, _, h1, h2, l, h3, h4⟩
    exact ⟨i, h1, h2, l, h3, h4⟩
theorem c_half2 {a n : Nat} {g : Nat → Nat} (h : bkU S d B u) (hk : bK B ≤ 8) (hu : u ≤ bK B) (hS : ∀ i, i < u → bS B i ≤ 2) (hn : a + n ≤ 16) (hg : ∀ j, j < n → g j < u ∧ sA S (d + 9) (a + j) = I (g j)) : ∀ (r j nf : Nat), j + r = n → r < nf → ∃ v, F_X0_hasHalfTwice_L5 sh f S d (I a) (I n) nf (msk g j) (I ((a + j : Nat) : Int)) = some v ∧ (v = 1 ∧ hfT B g j n ∨ v = 0 ∧ ¬ hfT B g j n) := by
  intro r
  induction r with
  | zero =>
    intro j nf h1 h2
    obtain ⟨nf, rfl⟩ : ∃ e, nf = e + 1 := ⟨nf - 1, by omega⟩
    have c1 : I a + I n ≤ I ((a + j : Nat) : Int) := by rw [I_add, I_le (by omega) (by omega)]; omega
    refine ⟨0, by rw [F_X0_hasHalfTwice_L5, if_pos c1], Or.inr ⟨rfl, ?_⟩⟩
    rintro ⟨i, i1, i2, _⟩
    omega
  | succ r ih =>
    intro j nf h1 h2
    obtain ⟨nf, rfl⟩ : ∃ e, nf = e + 1 := ⟨nf - 1, by omega⟩
    obtain ⟨g1, g2⟩ := hg j (by omega)
    have c1 : ¬ I a + I n ≤ I ((a + j : Nat) : Int) := by rw [I_add, I_le (by omega) (by omega)]; omega
    have c2 : ¬ Int32.ofNat 16 ≤ I ((a + j : Nat) : Int) := by
      rw [show Int32.ofNat 16 = I ((16 : Nat) : Int) from rfl, I_leN (by omega) (by omega)]; omega
    have cl : (I ((a + j : Nat) : Int)).toNatClampNeg = a + j := I_clN (by omega)
    have c4 : ¬ (I ((a + j : Nat) : Int) < 0 ∨ 16 ≤ a + j) := by
      rw [show (0 : Int32) = I 0 from rfl, I_lt (by omega) (by omega)]; omega
    have nx : I ((a + j : Nat) : Int) + 1 = I ((a + (j + 1) : Nat) : Int) := by
      rw [show (1 : Int32) = I 1 from rfl, I_add]; rfl
    have mx : msk g j ||| ((1 : Int32) <<< (I (g j) &&& 31)) = msk g (j + 1) := rfl
    have an := msk_and (g := g) (k := g j) (by omega) j (fun i hi => by have := (hg i (by omega)).1; omega)
    rw [F_X0_hasHalfTwice_L5, if_neg c1, if_neg c2]
    simp only [cl, if_neg c4, g2, bnd, c_isHalf h hk hu hS g1, Option.bind_some, nx, mx, an]
    by_cases ch : bS B (g j) = 2
    · simp only [if_pos ch, if_neg i10]
      by_cases ca : ∀ i, i < j → g i ≠ g j
      · rw [if_pos ca]
        obtain ⟨v, v1, v2⟩ := ih (j + 1) nf (by omega) (by omega)
        refine ⟨v, v1, ?_⟩
        have eq : hfT B g j n ↔ hfT B g (j + 1) n := by
          constructor
          · rintro ⟨i, i1, i2, i3, l, i4, i5⟩
            by_cases e : i = j
            · subst e; exact absurd i5 (ca l i4)
            · exact ⟨i, by omega, i2, i3, l, i4, i5⟩
          · rintro ⟨i, i1, i2⟩
            exact ⟨i, by omega, i2⟩
        rw [eq]
        exact v2
      · rw [if_neg ca]
        refine ⟨1, rfl, Or.inl ⟨rfl, j, Nat.le_refl _, by omega, ch, ?_⟩⟩
        apply Classical.byContradiction
        intro hh
        exact ca (fun i hi he => hh ⟨i, hi, he⟩)
    · simp only [if_neg ch, if_true]
      obtain ⟨v, v1, v2⟩ := ih (j + 1) nf (by omega) (by omega)
      refine ⟨v, v1, ?_⟩
      have eq : hfT B g j n ↔ hfT B g (j + 1) n := by
        constructor
        · rintro ⟨i, i1, i2, i3, l, i4, i5⟩
          by_cases e : i = j
          · subst e; exact absurd i3 ch
          · exact ⟨i, by omega, i2, i3, l, i4, i5⟩
        · rintro ⟨i, i1, i2⟩
          exact ⟨i, by omega, i2⟩
      rw [eq]
      exact v2
theorem c_close {n : Nat} {wo : Int32} {le : Int32} (hf : 1000 ≤ f) (h : dC S d D (bK D.2)) (o : opn S d D n) (hM : ∀ i, i < bK D.2 → -9 ≤ bM D.2 i ∧ bM D.2 i ≤ 9) (hS : ∀ i, i < bK D.2 → bS D.2 i ≤ 2) : F_X0_closeRule sh f S d wo le = (if evenR D.2 (bG D.2 (bR D.2)) n = true then some (1, uI (uA (uA S (d + 7) (bR D.2) wo) (d + 8) (bR D.2) le) d 10 (I ((bR D.2 + 1 : Nat) : Int))) else some (0, S)) := by
  obtain ⟨o1, o2, o3, o4⟩ := o
  have r := h.1.2.1
  have k8 := h.2.1
  have q4 : (I (bR D.2) < 4) = (bR D.2 < 4) := I_ltN (b := 4) (by omega) (by omega)
  have cl : (I (bR D.2)).toNatClampNeg = bR D.2 := I_clN (by omega)
  have c2 : ¬ (I (bR D.2) < 0 ∨ 4 ≤ bR D.2) := by
    rw [show (0 : Int32) = I 0 from rfl, I_lt (by omega) (by omega)]; omega
  have fr : I (bR D.2) * 4 = I ((4 * bR D.2 : Nat) : Int) := by
    rw [show (4 : Int32) = I 4 from rfl, I_mul]
    congr 1
    omega
  have ev := c_even (sh := sh) (f := f) (p1 := d + 9) (n1 := 16) (a := 4 * bR D.2) (n := n) (g := bG D.2 (bR D.2)) hf h.1 k8 (Nat.le_refl _) hM hS (by omega) (by omega) o4
  obtain ⟨v, v1, v2⟩ := c_half2 (sh := sh) (f := f) (a := 4 * bR D.2) (n := n) (g := bG D.2 (bR D.2)) h.1 k8 (Nat.le_refl _) hS (by omega) o4 n 0 f (by omega) (by omega)
  have v1' : F_X0_hasHalfTwice sh f S d (I ((4 * bR D.2 : Nat) : Int)) (I n) = some v := v1
  unfold F_X0_closeRule evenR
  simp only [r, q4, if_pos o1, bnd, fr, cl, if_neg c2, o3, ev, Option.bind_some]
  by_cases e1 : sumM D.2 (bG D.2 (bR D.2)) n = 0 ∧ sumH D.2 (bG D.2 (bR D.2)) n % 2 = 0
  · simp only [e1, and_self, if_true, if_neg i10, v1', Option.bind_some, decide_true, Bool.true_and]
    rcases v2 with ⟨rfl, w⟩ | ⟨rfl, w⟩
    · rw [halfTw_iff.mpr w]
      simp only [if_neg i10, Bool.not_true, Bool.false_eq_true, if_false]
    · have hw : halfTw D.2 (bG D.2 (bR D.2)) n = false := by
        cases hx : halfTw D.2 (bG D.2 (bR D.2)) n with
        | false => rfl
        | true => exact absurd (halfTw_iff.mp hx) w
      have r' : sI (uA S (d + 7) (bR D.2) wo) d 10 = I (bR D.2) := r
      have r'' : sI (uA (uA S (d + 7) (bR D.2) wo) (d + 8) (bR D.2) le) d 10 = I (bR D.2) := r
      rw [hw]
      simp only [if_true, Bool.not_false, r', cl, if_neg c2, r'']
      rw [show (1 : Int32) = I 1 from rfl, I_add]
      rfl
  · have e2 : (decide (sumM D.2 (bG D.2 (bR D.2)) n = 0) && (decide (sumH D.2 (bG D.2 (bR D.2)) n % 2 = 0) && !halfTw D.2 (bG D.2 (bR D.2)) n)) = false := by
      by_cases a : sumM D.2 (bG D.2 (bR D.2)) n = 0
      · have b : ¬ sumH D.2 (bG D.2 (bR D.2)) n % 2 = 0 := fun hh => e1 ⟨a, hh⟩
        rw [decide_eq_false b, Bool.false_and, Bool.and_false]
      · rw [decide_eq_false a, Bool.false_and]
    simp only [if_neg e1, if_true, e2, Bool.false_eq_true, if_false]
end P66
