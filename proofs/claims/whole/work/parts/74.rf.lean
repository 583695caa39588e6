section R74
variable {sh : List Sh} {f : Nat} {S : St} {q u r n : Nat} {B : Bk} {g : Nat → Nat}
theorem r_half (ck : ckX9 sh q = true) (p : sR S 94 6 = some q) (hr : r < 4) (hn : n ≤ 4) (hg : ∀ j, j < n → g j < 8 ∧ sA S (q + 7) (4 * r + j) = I (g j)) {l2 l3 : Int32} {k10 : Int32 → Int32 → Int32 → Int32 → Option Int32} {j : Nat} (hj : j < n) : ∀ (x l nf : Nat) (b : Int32), (b = 0 ∨ b = 1) → l + x = j → x < nf → ∃ w : Int32, F_X12_isEven_L76 sh f S 94 (I r) k10 nf l2 l3 b (I j) (I (g j)) (I l) = k10 l2 l3 w (I ((j + 1 : Nat) : Int)) ∧ (w = 0 ∨ w = 1) ∧ (w = 1 ↔ b = 1 ∧ ∀ y, l ≤ y → y < j → g y ≠ g j) := by
  intro x
  induction x with
  | zero =>
    intro l nf b hb h1 h2
    obtain ⟨nf, rfl⟩ : ∃ e, nf = e + 1 := ⟨nf - 1, by omega⟩
    have c1 : I (j : Int) ≤ I l := by rw [I_leN (by omega) (by omega)]; omega
    refine ⟨b, ?_, hb, ⟨fun h => ⟨h, fun y a b => by omega⟩, fun h => h.1⟩⟩
    rw [F_X12_isEven_L76, if_pos c1]
    simp only [bnd]
    rw [show (1 : Int32) = I 1 from rfl, I_add]
    rfl
  | succ x ih =>
    intro l nf b hb h1 h2
    obtain ⟨nf, rfl⟩ : ∃ e, nf = e + 1 := ⟨nf - 1, by omega⟩
    obtain ⟨a1, a2⟩ := hg l (by omega)
    obtain ⟨b1, b2⟩ := hg j hj
    have c1 : ¬ I (j : Int) ≤ I l := by rw [I_leN (by omega) (by omega)]; omega
    have ix : (4 : Int32) * I r + I l = I ((4 * r + l : Nat) : Int) := by
      rw [show (4 : Int32) = I 4 from rfl, I_mul, I_add]
      congr 1
    have cl : (I ((4 * r + l : Nat) : Int)).toNatClampNeg = 4 * r + l := I_clN (by omega)
    have c2 : ¬ (I ((4 * r + l : Nat) : Int) < 0 ∨ 16 ≤ 4 * r + l) := by
      rw [show (0 : Int32) = I 0 from rfl, I_lt (by omega) (by omega)]; omega
    have nx : I (l : Int) + 1 = I ((l + 1 : Nat) : Int) := by rw [show (1 : Int32) = I 1 from rfl, I_add]; rfl
    have qe : (I (g l : Int) = I (g j)) = (g l = g j) := I_eqN (by omega) (by omega)
    rw [F_X12_isEven_L76, if_neg c1]
    rcases hb with rfl | rfl
    · simp only [if_true, bnd, nx]
      obtain ⟨w, w1, w2, w3⟩ := ih (l + 1) nf 0 (Or.inl rfl) (by omega) (by omega)
      exact ⟨w, w1, w2, ⟨fun h => absurd (w3.mp h).1 (by decide), fun h => absurd h.1 (by decide)⟩⟩
    · simp only [if_neg i10, p, Option.bind_some, if_pos ck, ix, cl, if_neg c2, a2, qe, bnd, nx]
      by_cases ce : g l = g j
      · rw [if_pos ce]
        obtain ⟨w, w1, w2, w3⟩ := ih (l + 1) nf 0 (Or.inl rfl) (by omega) (by omega)
        exact ⟨w, w1, w2, ⟨fun h => absurd (w3.mp h).1 (by decide), fun h => absurd ce (h.2 l (Nat.le_refl _) (by omega))⟩⟩
      · rw [if_neg ce]
        obtain ⟨w, w1, w2, w3⟩ := ih (l + 1) nf 1 (Or.inr rfl) (by omega) (by omega)
        refine ⟨w, w1, w2, w3.trans ⟨fun h => ⟨trivial, fun y a b => ?_⟩, fun h => ⟨rfl, fun y a b => h.2 y (by omega) b⟩⟩⟩
        by_cases d : y = l
        · rw [d]; exact ce
        · exact h.2 y (by omega) b
theorem hfT_succ {j : Nat} : hfT B g 0 (j + 1) ↔ hfT B g 0 j ∨ (bS B (g j) = 2 ∧ ∃ l, l < j ∧ g l = g j) := by
  constructor
  · rintro ⟨i, i1, i2, i3, l, i4, i5⟩
    by_cases e : i = j
    · subst e; exact Or.inr ⟨i3, l, i4, i5⟩
    · exact Or.inl ⟨i, i1, by omega, i3, l, i4, i5⟩
  · rintro (⟨i, i1, i2, h⟩ | ⟨h1, l, h2, h3⟩)
    · exact ⟨i, i1, by omega, h⟩
    · exact ⟨j, Nat.zero_le _, by omega, h1, l, h2, h3⟩
theorem r_even0 (hf : 1000 ≤ f) (ck : ckX9 sh q = true) (p : sR S 94 6 = some q) (hr : r < 4) (hn : n ≤ 4) (hz : sA S (q + 6) r = I n) (hg : ∀ j, j < n → g j < u ∧ sA S (q + 7) (4 * r + j) = I (g j)) (hu : u ≤ 8) (hM : ∀ i, i < u → -9 ≤ bM B i ∧ bM B i ≤ 9 ∧ sA S (q + 4) i = I (bM B i)) (hS : ∀ i, i < u → bS B i ≤ 2 ∧ sA S (q + 5) i = I (bS B i)) : ∀ (x j nf : Nat) (b : Int32), (b = 0 ∨ b = 1) → j + x = n → x < nf → (b = 1 ↔ ¬ hfT B g 0 j) → ∃ v, F_X12_isEven_L10 sh f S 94 (I r) nf (I (sumM B g j)) (I (sumH B g j)) b (I j) = some v ∧ (v = 1 ∧ sumM B g n = 0 ∧ sumH B g n % 2 = 0 ∧ ¬ hfT B g 0 n ∨ v = 0 ∧ ¬ (sumM B g n = 0 ∧ sumH B g n % 2 = 0 ∧ ¬ hfT B g 0 n)) := by
  have cr : ¬ (I (r : Int) < 0 ∨ 4 ≤ r) := by
    rw [show (0 : Int32) = I 0 from rfl, I_lt (by omega) (by omega)]; omega
  have clr : (I (r : Int)).toNatClampNeg = r := I_clN (by omega)
  intro x
  induction x with
  | zero =>
    intro j nf b hb h1 h2 h3
    obtain ⟨nf, rfl⟩ : ∃ e, nf = e + 1 := ⟨nf - 1, by omega⟩
    have : j = n := by omega
    subst this
    have bd := sumM_bd (B := B) (u := u) (g := g) (fun i hi => ⟨(hM i hi).1, (hM i hi).2.1⟩) j (fun i hi => (hg i hi).1)
    have bh := sumH_le (B := B) (g := g) j
    have c1 : I (j : Int) ≤ I j := by rw [I_leN (by omega) (by omega)]; omega
    have q1 : (I (sumM B g j) = 0) = (sumM B g j = 0) := by rw [show (0 : Int32) = I 0 from rfl, I_eq (by omega) (by omega)]
    have q2 : (I ((sumH B g j : Nat) : Int) - I ((sumH B g j : Nat) : Int) / 2 * 2 = 0) = (sumH B g j % 2 = 0) := by
      rw [show (2 : Int32) = I 2 from rfl, show (0 : Int32) = I 0 from rfl, I_div (by omega) (by omega), I_mul, I_sub, I_eq (by omega) (by omega)]
      exact propext ⟨fun h => by omega, fun h => by omega⟩
    rw [F_X12_isEven_L10]
    simp only [p, Option.bind_some, if_pos ck, clr, if_neg cr, hz, if_pos c1, q1, q2]
    rcases hb with rfl | rfl
    · simp only [if_true]
      exact ⟨0, rfl, Or.inr ⟨rfl, fun h => absurd (h3.mpr h.2.2) (by decide)⟩⟩
    · have nh := h3.mp rfl
      simp only [if_neg i10]
      by_cases c3 : sumM B g j = 0
      · by_cases c4 : sumH B g j % 2 = 0
        · rw [if_pos c3, if_pos c4]
          exact ⟨1, rfl, Or.inl ⟨rfl, c3, c4, nh⟩⟩
        · rw [if_pos c3, if_neg c4]
          exact ⟨0, rfl, Or.inr ⟨rfl, fun h => c4 h.2.1⟩⟩
      · rw [if_neg c3]
        exact ⟨0, rfl, Or.inr ⟨rfl, fun h => c3 h.1⟩⟩
  | succ x ih =>
    intro j nf b hb h1 h2 h3
    obtain ⟨nf, rfl⟩ : ∃ e, nf = e + 1 := ⟨nf - 1, by omega⟩
    obtain ⟨a1, a2⟩ := hg j (by omega)
    have c1 : ¬ I (n : Int) ≤ I j := by rw [I_leN (by omega) (by omega)]; omega
    have ix : (4 : Int32) * I r + I j = I ((4 * r + j : Nat) : Int) := by
      rw [show (4 : Int32) = I 4 from rfl, I_mul, I_add]
      congr 1
    have cl : (I ((4 * r + j : Nat) : Int)).toNatClampNeg = 4 * r + j := I_clN (by omega)
    have c2 : ¬ (I ((4 * r + j : Nat) : Int) < 0 ∨ 16 ≤ 4 * r + j) := by
      rw [show (0 : Int32) = I 0 from rfl, I_lt (by omega) (by omega)]; omega
    have dl : (I (g j : Int)).toNatClampNeg = g j := I_clN (by omega)
    have d1 : ¬ (I (g j : Int) < 0 ∨ 8 ≤ g j) := by
      rw [show (0 : Int32) = I 0 from rfl, I_lt (by omega) (by omega)]; omega
    have m2 := (hM (g j) a1).2.2
    obtain ⟨s1, s2⟩ := hS (g j) a1
    have qs : (I (bS B (g j) : Int) = 2) = (bS B (g j) = 2) := I_eqN (b := 2) (by omega) (by omega)
    have nx : I (j : Int) + 1 = I ((j + 1 : Nat) : Int) := by rw [show (1 : Int32) = I 1 from rfl, I_add]; rfl
    have sm : I (sumM B g j) + I (bM B (g j)) = I (sumM B g (j + 1)) := by rw [I_add]; rfl
    rw [F_X12_isEven_L10]
    simp only [p, Option.bind_some, if_pos ck, clr, if_neg cr, hz, if_neg c1, ix, cl, if_neg c2, bnd, a2, dl, if_neg d1, m2, s2, qs, sm, nx]
    by_cases ch : bS B (g j) = 2
    · have sh1 : I (sumH B g j : Int) + 1 = I (sumH B g (j + 1) : Int) := by
        rw [show (1 : Int32) = I 1 from rfl, I_add, sumH, if_pos ch]
        rfl
      obtain ⟨w, w1, w2, w3⟩ := r_half (sh := sh) (f := f) (n := n) (l2 := I (sumM B g (j + 1))) (l3 := I (sumH B g (j + 1))) (k10 := F_X12_isEven_L10 sh f S 94 (I r) nf) ck p hr hn (fun i hi => ⟨by have := (hg i hi).1; omega, (hg i hi).2⟩) (j := j) (by omega) j 0 f b hb (by omega) (by omega)
      have w1' : F_X12_isEven_L76 sh f S 94 (I r) (F_X12_isEven_L10 sh f S 94 (I r) nf) f (I (sumM B g (j + 1))) (I (sumH B g (j + 1))) b (I j) (I (g j)) 0 = F_X12_isEven_L10 sh f S 94 (I r) nf (I (sumM B g (j + 1))) (I (sumH B g (j + 1))) w (I ((j + 1 : Nat) : Int)) := w1
      simp only [if_pos ch, sh1, w1']
      apply ih (j + 1) nf w w2 (by omega) (by omega)
      rw [hfT_succ, w3, h3]
      constructor
      · rintro ⟨x1, x2⟩ (y | ⟨_, l, y1, y2⟩)
        · exact x1 y
        · exact x2 l (Nat.zero_le _) y1 y2
      · intro y
        exact ⟨fun z => y (Or.inl z), fun l _ hl hz => y (Or.inr ⟨ch, l, hl, hz⟩)⟩
    · have sh0 : sumH B g (j + 1) = sumH B g j := by rw [sumH, if_neg ch]; rfl
      simp only [if_neg ch]
      rw [← sh0]
      apply ih (j + 1) nf b hb (by omega) (by omega)
      rw [hfT_succ, h3]
      constructor
      · rintro x1 (y | y)
        · exact x1 y
        · exact ch y.1
      · intro y z
        exact y (Or.inl z)
theorem r_even (hf : 1000 ≤ f) (ck : ckX9 sh q = true) (p : sR S 94 6 = some q) (hr : r < 4) (hn : n ≤ 4) (hz : sA S (q + 6) r = I n) (hg : ∀ j, j < n → g j < u ∧ sA S (q + 7) (4 * r + j) = I (g j)) (hu : u ≤ 8) (hM : ∀ i, i < u → -9 ≤ bM B i ∧ bM B i ≤ 9 ∧ sA S (q + 4) i = I (bM B i)) (hS : ∀ i, i < u → bS B i ≤ 2 ∧ sA S (q + 5) i = I (bS B i)) : F_X12_isEven sh f S 94 (I r) = some (if evenR B g n = true then 1 else 0) := by
  obtain ⟨v, v1, v2⟩ := r_even0 (sh := sh) (f := f) (B := B) (g := g) hf ck p hr hn hz hg hu hM hS n 0 f 1 (Or.inr rfl) (by omega) (by omega) ⟨fun _ h => by obtain ⟨i, _, i2, _⟩ := h; omega, fun _ => rfl⟩
  have v1' : F_X12_isEven sh f S 94 (I r) = some v := v1
  rw [v1']
  congr 1
  have ev : evenR B g n = true ↔ (sumM B g n = 0 ∧ sumH B g n % 2 = 0 ∧ ¬ hfT B g 0 n) := by
    unfold evenR
    rw [Bool.and_eq_true, Bool.and_eq_true, decide_eq_true_eq, decide_eq_true_eq, Bool.not_eq_true', ← Bool.not_eq_true, halfTw_iff]
  rcases v2 with ⟨rfl, a⟩ | ⟨rfl, a⟩
  · rw [if_pos (ev.mpr a)]
  · rw [if_neg (fun h => a (ev.mp h))]
end R74
