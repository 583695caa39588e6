/-! IN A TREE two cuts have different sides. -/
section C7a
theorem rc_ne : ∀ a b p : Fin 3, a ≠ b → rcN (mkb (fun k => decide (k = a.val)) 3) (2 ^ p.val) ≠ rcN (mkb (fun k => decide (k = b.val)) 3) (2 ^ p.val) := by decide
theorem bits8 : ∀ a b : Fin 8, (∀ p : Fin 3, (2 ^ p.val &&& a.val ≠ 0 ↔ 2 ^ p.val &&& b.val ≠ 0)) → a = b := by decide
theorem p2inj : ∀ a b : Fin 3, 2 ^ a.val = 2 ^ b.val → a = b := by decide
variable {Y : Ly} {ρ : Nat → Nat}
theorem lk_in {x y : Nat} (h : lkN Y x y ≠ 0) : yN Y ≤ x ∧ yN Y ≤ y ∧ yP Y x ≠ yP Y y := by
  unfold lkN at h
  by_cases c : x < yN Y ∨ y < yN Y ∨ yP Y x = yP Y y
  · rw [if_pos c] at h; exact absurd rfl h
  · omega
theorem yP_at (Y : Ly) {p x : Nat} (hp : p < 3) (h : yS Y p ≤ x ∧ x < yS Y (p + 1)) : yP Y x = p := by
  have m1 : yS Y 1 ≤ yS Y 2 := yS_mono (by omega)
  unfold yP
  rcases (by omega : p = 0 ∨ p = 1 ∨ p = 2) with rfl | rfl | rfl
  · rw [if_pos h.2]
  · rw [if_neg (by omega), if_pos h.2]
  · rw [if_neg (by omega), if_neg (by omega)]
theorem two_mm {l : List Nat} (nd : l.Nodup) (h2 : l.length = 2) {i j x : Nat} (hi : i ∈ l) (hj : j ∈ l) (ne : i ≠ j) (hx : x ∈ l) : x = i ∨ x = j := by
  match l, h2 with
  | [a, b], _ =>
    simp only [List.mem_cons, List.not_mem_nil, or_false] at hi hj hx
    omega
theorem sd_lt (ok : yOk Y) (w : yRw Y ρ) (c : cn Y ρ) (tr : ((yL Y / 2 : Nat) : Int) - (yN Y : Int) = (yV Y : Int) - 1) {i j : Nat} (hij : i < j) (hj : j < yL Y) (ci : cutB Y ρ i = true) (cj : cutB Y ρ j = true) : sdN Y ρ i ≠ sdN Y ρ j := by
  have L12 := ok.2.2.2.2.2.2.1
  have ev := ok.2.2.2.2.2.2.2
  have V3 := ok.2.2.2.1
  have hi : i < yL Y := by omega
  have di := of_decide_eq_true ci
  have dj := of_decide_eq_true cj
  have ri := yRw_lt w hi
  have rj := yRw_lt w hj
  have il := in_len ok w c.1
  obtain ⟨ka, ka3, ea, ta, wa⟩ := cut_k ok w c.2 hi ci
  obtain ⟨kb, kb3, eb, tb, wb⟩ := cut_k ok w c.2 hj cj
  have nab : ka ≠ kb := by
    intro e
    have := two_ex (yL Y) ka i j hij hj ⟨di.2.1, ea⟩ ⟨dj.2.1, by rw [eb, e]⟩
    rw [ta] at this
    exact absurd this (by decide)
  generalize hF : (List.range (yL Y)).filter (fun i => decide (yN Y ≤ i ∧ i < ρ i)) = F at il
  have mF : ∀ x, x ∈ F ↔ x < yL Y ∧ yN Y ≤ x ∧ x < ρ x := fun x => by
    rw [← hF, List.mem_filter, List.mem_range, decide_eq_true_eq]
  have nF : F.Nodup := by rw [← hF]; exact List.nodup_range.sublist List.filter_sublist
  have iF : i ∈ F := (mF i).mpr ⟨hi, di.1, di.2.1⟩
  have jF : j ∈ F := (mF j).mpr ⟨hj, dj.1, dj.2.1⟩
  have V2 : 2 ≤ F.length := by
    match F, iF, jF with
    | [], h, _ => cases h
    | [a], h, g =>
      simp only [List.mem_cons, List.not_mem_nil, or_false] at h g
      omega
    | a :: b :: r, _, _ => simp
  have Fl : F.length = 2 ∧ yV Y = 3 := by omega
  have hI : ∀ x, x < yL Y → yN Y ≤ x → yN Y ≤ ρ x → x = i ∨ x = ρ i ∨ x = j ∨ x = ρ j := fun x hx h1 h2 => by
    have rx := yRw_lt w hx
    by_cases s : x < ρ x
    · have := two_mm nF Fl.1 iF jF (by omega) ((mF x).mpr ⟨hx, h1, s⟩)
      omega
    · have := two_mm nF Fl.1 iF jF (by omega) ((mF (ρ x)).mpr ⟨rx.1, h2, by rw [rx.2.1]; have := rx.2.2.1; omega⟩)
      rcases this with e | e
      · right; left; rw [← e, rx.2.1]
      · right; right; right; rw [← e, rx.2.1]
  have jr : j ≠ ρ i := fun e => by
    have : ρ j = i := by rw [e, ri.2.1]
    omega
  have ir : i ≠ ρ j := fun e => by
    have : ρ i = j := by rw [e, rj.2.1]
    omega
  have lka : lkN Y (ρ i) i = 2 ^ ka := by rw [lkN_sy]; exact ea
  have lkb : lkN Y (ρ j) j = 2 ^ kb := by rw [lkN_sy]; exact eb
  have pw : ∀ k, 2 ^ k ≠ 0 := fun k => by have := Nat.two_pow_pos k; omega
  have yi := lk_in (by rw [ea]; exact pw _ : lkN Y i (ρ i) ≠ 0)
  have yj := lk_in (by rw [eb]; exact pw _ : lkN Y j (ρ j) ≠ 0)
  have inj : ∀ a b, a < 3 → b < 3 → 2 ^ a = 2 ^ b → a = b := fun a b ha hb e => by
    have := p2inj ⟨a, ha⟩ ⟨b, hb⟩ e
    exact congrArg Fin.val this
  have lW : lkW Y ρ i = mkb (fun k => decide (k = kb)) 3 := by
    unfold lkW
    refine mkb_eq (fun k hk => ?_)
    rw [Bool.eq_iff_iff, List.any_eq_true, decide_eq_true_iff]
    constructor
    · rintro ⟨x, hx, h⟩
      rw [Bool.and_eq_true, decide_eq_true_iff, beq_iff_eq] at h
      have hx := List.mem_range.mp hx
      have z := lk_in (by rw [h.2]; exact pw _ : lkN Y x (ρ x) ≠ 0)
      rcases hI x hx z.1 z.2.1 with e | e | e | e
      · exact absurd e h.1.1
      · exact absurd e h.1.2
      · rw [e, eb] at h; exact inj k kb hk kb3 h.2.symm
      · rw [e, rj.2.1, lkb] at h; exact inj k kb hk kb3 h.2.symm
    · intro e
      refine ⟨j, List.mem_range.mpr hj, ?_⟩
      rw [Bool.and_eq_true, decide_eq_true_iff, beq_iff_eq, e]
      exact ⟨⟨by omega, jr⟩, eb⟩
  have lW' : lkW Y ρ j = mkb (fun k => decide (k = ka)) 3 := by
    unfold lkW
    refine mkb_eq (fun k hk => ?_)
    rw [Bool.eq_iff_iff, List.any_eq_true, decide_eq_true_iff]
    constructor
    · rintro ⟨x, hx, h⟩
      rw [Bool.and_eq_true, decide_eq_true_iff, beq_iff_eq] at h
      have hx := List.mem_range.mp hx
      have z := lk_in (by rw [h.2]; exact pw _ : lkN Y x (ρ x) ≠ 0)
      rcases hI x hx z.1 z.2.1 with e | e | e | e
      · rw [e, ea] at h; exact inj k ka hk ka3 h.2.symm
      · rw [e, ri.2.1, lka] at h; exact inj k ka hk ka3 h.2.symm
      · exact absurd e h.1.1
      · exact absurd e h.1.2
    · intro e
      refine ⟨i, List.mem_range.mpr hi, ?_⟩
      rw [Bool.and_eq_true, decide_eq_true_iff, beq_iff_eq, e]
      exact ⟨⟨by omega, ir⟩, ea⟩
  have atp : ∀ p, p < 3 → ∃ e, e < yN Y ∧ yP Y (ρ e) = p := fun p hp => by
    have z3 : 3 ≤ yZ Y p := (ok.1.2.2.2 (yU Y p) (ok.2.2.2.2.1 p (by omega))).1
    have s1 : yS Y (p + 1) = yS Y p + yZ Y p := rfl
    have s2 : yS Y (p + 1) ≤ yL Y := yS_mono (by omega)
    have s0 : yN Y ≤ yS Y p := yS_mono (p := 0) (by omega)
    have one : ∀ d, d < 3 → (∃ e, e < yN Y ∧ yP Y (ρ e) = p) ∨ ((yS Y p + d = i ∨ yS Y p + d = ρ i) ∨ yS Y p + d = j ∨ yS Y p + d = ρ j) ∧ yP Y (yS Y p + d) = p := fun d hd => by
      have yp := yP_at Y hp (x := yS Y p + d) ⟨by omega, by omega⟩
      have rx := yRw_lt w (show yS Y p + d < yL Y by omega)
      by_cases r : ρ (yS Y p + d) < yN Y
      · exact Or.inl ⟨_, r, by rw [rx.2.1]; exact yp⟩
      · have := hI (yS Y p + d) (by omega) (by omega) (by omega)
        exact Or.inr ⟨by omega, yp⟩
    rcases one 0 (by omega) with h | ⟨a1, a2⟩
    · exact h
    · rcases one 1 (by omega) with h | ⟨b1, b2⟩
      · exact h
      · rcases one 2 (by omega) with h | ⟨c1, c2⟩
        · exact h
        · exfalso
          have q : ∀ x, yP Y x = p → (x = i ∨ x = ρ i) ∨ x = j ∨ x = ρ j → (x = i ∧ yP Y i = p) ∨ (x = ρ i ∧ yP Y (ρ i) = p) ∨ (x = j ∧ yP Y j = p) ∨ x = ρ j ∧ yP Y (ρ j) = p := fun x hx h => by
            rcases h with (h | h) | h | h
            · exact Or.inl ⟨h, by rw [← h]; exact hx⟩
            · exact Or.inr (Or.inl ⟨h, by rw [← h]; exact hx⟩)
            · exact Or.inr (Or.inr (Or.inl ⟨h, by rw [← h]; exact hx⟩))
            · exact Or.inr (Or.inr (Or.inr ⟨h, by rw [← h]; exact hx⟩))
          have A := q _ a2 a1
          have B := q _ b2 b1
          have C := q _ c2 c1
          have := yi.2.2
          have := yj.2.2
          omega
  intro e
  have p0 : yN Y ≤ ρ 0 := c.1 0 (by have := ok.2.1; omega)
  have pb0 : pB Y (ρ 0) = 2 ^ yP Y (ρ 0) := by unfold pB; rw [if_neg (by omega)]
  have y3 := yP_lt Y (ρ 0)
  have lt8 : ∀ w, rcN w (pB Y (ρ 0)) < 8 := fun w => by
    refine rcN_lt ?_
    rw [pb0]
    have : 2 ^ yP Y (ρ 0) ≤ 2 ^ 2 := Nat.pow_le_pow_right (by omega) (by omega)
    omega
  have ne := rc_ne ⟨kb, kb3⟩ ⟨ka, ka3⟩ ⟨yP Y (ρ 0), y3⟩ (fun h => nab (congrArg Fin.val h).symm)
  refine ne ?_
  have R : rcN (lkW Y ρ i) (pB Y (ρ 0)) = rcN (lkW Y ρ j) (pB Y (ρ 0)) := by
    have := bits8 ⟨_, lt8 (lkW Y ρ i)⟩ ⟨_, lt8 (lkW Y ρ j)⟩ (fun p => by
      obtain ⟨x, x1, x2⟩ := atp p.val p.isLt
      have tbi := mkb_tb (fun e => decide (pB Y (ρ e) &&& rcN (lkW Y ρ i) (pB Y (ρ 0)) ≠ 0)) x (yN Y)
      have tbj := mkb_tb (fun e => decide (pB Y (ρ e) &&& rcN (lkW Y ρ j) (pB Y (ρ 0)) ≠ 0)) x (yN Y)
      have ee : mkb (fun e => decide (pB Y (ρ e) &&& rcN (lkW Y ρ i) (pB Y (ρ 0)) ≠ 0)) (yN Y) = mkb (fun e => decide (pB Y (ρ e) &&& rcN (lkW Y ρ j) (pB Y (ρ 0)) ≠ 0)) (yN Y) := e
      rw [ee, tbj, decide_eq_true x1, Bool.true_and, Bool.true_and] at tbi
      have xp : pB Y (ρ x) = 2 ^ p.val := by
        have := c.1 x x1
        unfold pB
        rw [if_neg (by omega), x2]
      rw [xp] at tbi
      have := decide_eq_decide.mp tbi
      exact this.symm)
    exact congrArg Fin.val this
  rw [lW, lW', pb0] at R
  exact R
/-- in a tree the side tells the cut -/
theorem sd_inj (ok : yOk Y) (w : yRw Y ρ) (c : cn Y ρ) (tr : ((yL Y / 2 : Nat) : Int) - (yN Y : Int) = (yV Y : Int) - 1) {i j : Nat} (hi : i < yL Y) (hj : j < yL Y) (ci : cutB Y ρ i = true) (cj : cutB Y ρ j = true) (e : sdN Y ρ i = sdN Y ρ j) : i = j := by
  rcases Nat.lt_trichotomy i j with h | h | h
  · exact absurd e (sd_lt ok w c tr h hj ci cj)
  · exact h
  · exact absurd e.symm (sd_lt ok w c tr h hi cj ci)
end C7a
