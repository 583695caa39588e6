/-! ROWS THAT HANG TOGETHER. -/
section C9c
variable {Y : Ly} {ρ : Nat → Nat}
abbrev yFo (Y : Ly) : Nat → Nat := bF (yB Y)
abbrev yRw (Y : Ly) (ρ : Nat → Nat) : Prop := Rw (yK Y) (yFo Y) (List.range (yL Y)) ρ
/-- a join between a leg of the point p and one of the point q -/
def Lk (Y : Ly) (ρ : Nat → Nat) (p q : Nat) : Prop := ∃ i, yN Y ≤ i ∧ i < yL Y ∧ yN Y ≤ ρ i ∧ yP Y i = p ∧ yP Y (ρ i) = q
def hgP (Y : Ly) (ρ : Nat → Nat) : Prop := yV Y = 1 ∨ yV Y = 2 ∧ Lk Y ρ 0 1 ∨ yV Y = 3 ∧ (Lk Y ρ 0 1 ∧ Lk Y ρ 0 2 ∨ Lk Y ρ 0 1 ∧ Lk Y ρ 1 2 ∨ Lk Y ρ 0 2 ∧ Lk Y ρ 1 2)
/-- all hang together: no two ends are joined, and the points hang -/
def cn (Y : Ly) (ρ : Nat → Nat) : Prop := (∀ i, i < yN Y → yN Y ≤ ρ i) ∧ hgP Y ρ
theorem yRw_lt (w : yRw Y ρ) {i : Nat} (hi : i < yL Y) : ρ i < yL Y ∧ ρ (ρ i) = i ∧ ρ i ≠ i ∧ yK Y (ρ i) = yFo Y (yK Y i) := by
  obtain ⟨a, b, c, d⟩ := w i (List.mem_range.mpr hi)
  exact ⟨List.mem_range.mp a, b, c, d⟩
theorem Lk_sym (w : yRw Y ρ) {p q : Nat} (h : Lk Y ρ p q) : Lk Y ρ q p := by
  obtain ⟨i, h1, h2, h3, h4, h5⟩ := h
  obtain ⟨a, b, _⟩ := yRw_lt w h2
  exact ⟨ρ i, h3, a, by rw [b]; exact h1, h5, by rw [b]; exact h4⟩
theorem cn_sw (ok : yOk Y) (w : yRw Y ρ) (c : cn Y ρ) {x y : Nat} (hx : x < yL Y) (hy : y < yL Y) (e : yF Y x = yF Y y) : cn Y (cj (sw x y) (sw x y) ρ) := by
  have nl := N_le ok
  have A : ∀ i, i < yL Y → (yN Y ≤ sw x y i ↔ yN Y ≤ i) ∧ (yN Y ≤ i → yP Y (sw x y i) = yP Y i) ∧ sw x y i < yL Y ∧ (i < yN Y → sw x y i = i) := by
    intro i hi
    by_cases cx : x < yN Y
    · rw [f_out (Or.inl cx)] at e
      by_cases cy : y < yN Y
      · rw [f_out (Or.inl cy)] at e
        subst e
        have : sw x x i = i := by unfold sw; grind
        rw [this]
        exact ⟨Iff.rfl, fun _ => rfl, hi, fun _ => rfl⟩
      · have := f_in ok (i := y) (by omega) hy
        omega
    · by_cases cy : y < yN Y
      · rw [f_out (Or.inl cy)] at e
        have := f_in ok (i := x) (by omega) hx
        omega
      · have p := ((f_alike ok (by omega) hx (by omega) hy).mp e).1
        unfold sw
        by_cases d1 : i = x
        · subst d1
          rw [if_pos rfl]
          exact ⟨by omega, fun _ => p.symm, hy, fun h => by omega⟩
        · rw [if_neg d1]
          by_cases d2 : i = y
          · subst d2
            rw [if_pos rfl]
            exact ⟨by omega, fun _ => p, hx, fun h => by omega⟩
          · rw [if_neg d2]
            exact ⟨Iff.rfl, fun _ => rfl, hi, fun _ => rfl⟩
  have B : ∀ p q, Lk Y ρ p q → Lk Y (cj (sw x y) (sw x y) ρ) p q := by
    rintro p q ⟨i, h1, h2, h3, h4, h5⟩
    obtain ⟨a1, a2, a3, a4⟩ := A i h2
    obtain ⟨b1, b2, b3, b4⟩ := A (ρ i) (yRw_lt w h2).1
    refine ⟨sw x y i, a1.mpr h1, a3, ?_, by rw [a2 h1, h4], ?_⟩
    · show yN Y ≤ sw x y (ρ (sw x y (sw x y i)))
      rw [sw_sw]
      exact b1.mpr h3
    · show yP Y (sw x y (ρ (sw x y (sw x y i)))) = q
      rw [sw_sw, b2 h3, h5]
  refine ⟨fun i hi => ?_, ?_⟩
  · show yN Y ≤ sw x y (ρ (sw x y i))
    rw [(A i (by omega)).2.2.2 hi]
    exact (A _ (yRw_lt w (by omega)).1).1.mpr (c.1 i hi)
  · rcases c.2 with h | ⟨v, h⟩ | ⟨v, h⟩
    · exact Or.inl h
    · exact Or.inr (Or.inl ⟨v, B _ _ h⟩)
    · refine Or.inr (Or.inr ⟨v, ?_⟩)
      rcases h with ⟨h1, h2⟩ | ⟨h1, h2⟩ | ⟨h1, h2⟩
      · exact Or.inl ⟨B _ _ h1, B _ _ h2⟩
      · exact Or.inr (Or.inl ⟨B _ _ h1, B _ _ h2⟩)
      · exact Or.inr (Or.inr ⟨B _ _ h1, B _ _ h2⟩)
theorem cn_cg (ok : yOk Y) (w : yRw Y ρ) (c : cn Y ρ) {s : Nat} (hs : s ∈ yPP Y) : cn Y (cg (yG Y) ivp s ρ) := by
  have nl := N_le ok
  obtain ⟨s6, ks⟩ := mem_PP.mp hs
  have G := (y_Gp ok).2.2.2.1 s hs
  have w' : yRw Y (cg (yG Y) ivp s ρ) := cg_rw (y_Gp ok) hs w
  have B : ∀ p q, Lk Y ρ p q → Lk Y (cg (yG Y) ivp s ρ) (spt s p) (spt s q) := by
    rintro p q ⟨i, h1, h2, h3, h4, h5⟩
    obtain ⟨a1, a2, a3, a4, a5⟩ := g_in ok ks h1 h2
    obtain ⟨b1, b2, b3, b4, b5⟩ := g_in ok ks h3 (yRw_lt w h2).1
    have e : cg (yG Y) ivp s ρ (yG Y s i) = yG Y s (ρ i) := by
      show yG Y s (ρ (yG Y (ivp s) (yG Y s i))) = _
      rw [(G.2 i).1]
    refine ⟨yG Y s i, a3, a4, by rw [e]; exact b3, by rw [a2, h4], by rw [e, b2, h5]⟩
  have B' := fun p q h => Lk_sym w' (B p q h)
  refine ⟨fun i hi => ?_, ?_⟩
  · show yN Y ≤ yG Y s (ρ (yG Y (ivp s) i))
    rw [g_out (Or.inl hi)]
    exact (g_in ok ks (c.1 i hi) (yRw_lt w (by omega)).1).2.2.1
  · have ss : s = 0 ∨ s = 1 ∨ s = 2 ∨ s = 3 ∨ s = 4 ∨ s = 5 := by omega
    have kk := ks 2 (by omega)
    rcases c.2 with h | ⟨v, h⟩ | ⟨v, h⟩
    · exact Or.inl h
    · refine Or.inr (Or.inl ⟨v, ?_⟩)
      rcases ss with rfl | rfl | rfl | rfl | rfl | rfl
      · exact B _ _ h
      · exact B' _ _ h
      all_goals exact absurd (kk.2 (by omega)) (by decide)
    · refine Or.inr (Or.inr ⟨v, ?_⟩)
      rcases ss with rfl | rfl | rfl | rfl | rfl | rfl
      all_goals
        have x1 := B 0 1
        have x2 := B 0 2
        have x3 := B 1 2
        have y1 := B' 0 1
        have y2 := B' 0 2
        have y3 := B' 1 2
        simp only [spt, spT, List.getD_cons_succ, List.getD_cons_zero, Nat.reduceMul, Nat.reduceAdd] at x1 x2 x3 y1 y2 y3
        rcases h with ⟨h1, h2⟩ | ⟨h1, h2⟩ | ⟨h1, h2⟩
        all_goals grind
/-- what is true of rows goes over to all that look alike -/
theorem Eqv_cn (ok : yOk Y) {ρ' : Nat → Nat} (w : yRw Y ρ) (w' : yRw Y ρ') (o : ∀ i, ¬ i < yL Y → ρ i = 99) (o' : ∀ i, ¬ i < yL Y → ρ' i = 99) (h : Eqv (yF Y) (List.range (yL Y)) (yPP Y) (yG Y) ivp ρ ρ') (c : cn Y ρ) : cn Y ρ' := by
  have L12 := ok.2.2.2.2.2.2.1
  have nl := N_le ok
  refine (clo (y_hk ok) List.nodup_range (y_Gp ok) (y_Gen ok) (fun s _ => g_out (Or.inr (by omega))) (by rw [List.mem_range]; omega) w w' (fun i hi => o i (by rw [List.mem_range] at hi; exact hi)) (fun i hi => o' i (by rw [List.mem_range] at hi; exact hi)) (fun τ => yRw Y τ ∧ cn Y τ) ⟨w, c⟩ ?_ ?_ h).2
  · rintro τ x y hx hy e ⟨a, b⟩
    exact ⟨(Rch.step hx hy e).rw (y_hk ok) a, cn_sw ok a b (List.mem_range.mp hx) (List.mem_range.mp hy) e⟩
  · rintro τ s hs ⟨a, b⟩
    have := (y_Gen ok).1 s hs
    exact ⟨cg_rw (y_Gp ok) this a, cn_cg ok a b this⟩
end C9c
