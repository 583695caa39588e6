/-! DRAW: every least row of a layout, in order. -/
section S9s
variable {sh : List Sh} {f : Nat} {g b gi : Nat} {Y : Ly}
abbrev yLv (Y : Ly) (k : Nat) (l : List Nat) (π : Nat → Nat) : List (Nat → Nat) := lv (okF (yK Y) (yFo Y)) k l π
noncomputable def kpr (Y : Ly) (ρ : Nat → Nat) : Bool := @decide (cn Y ρ ∧ yLst Y ρ) (Classical.propDecidable _)
theorem kpr_iff {Y : Ly} {ρ : Nat → Nat} : kpr Y ρ = true ↔ cn Y ρ ∧ yLst Y ρ := by
  unfold kpr
  exact @decide_eq_true_iff _ (Classical.propDecidable _)
/-- joined are all legs but those of l -/
def Pr (Y : Ly) (l : List Nat) (π : Nat → Nat) : Prop := (∀ x, x < yL Y → ¬ x ∈ l → π x < yL Y ∧ ¬ π x ∈ l ∧ π (π x) = x ∧ π x ≠ x ∧ yK Y (π x) = yFo Y (yK Y x) ∧ (yN Y ≤ x ∨ yN Y ≤ π x)) ∧ (∀ x, x ∈ l → π x = 99) ∧ ∀ x, ¬ x < yL Y → π x = 99
theorem Pr_row {l : List Nat} {π ρ : Nat → Nat} {k : Nat} (ok : yOk Y) (p : Pr Y l π) (hl : ∀ x, x ∈ l → x < yL Y) (len : l.length = 2 * k) (nd : l.Nodup) (h : ρ ∈ yLv Y k l π) : yRw Y ρ ∧ (∀ i, ¬ i < yL Y → ρ i = 99) ∧ (∀ x, x < yL Y → ¬ x ∈ l → ρ x = π x ∧ ¬ ρ x ∈ l) := by
  have m := (lv_mem (y_ff ok) k l π ρ len nd).mp h
  have c : ∀ x, x < yL Y → ¬ x ∈ l → ρ x = π x ∧ ¬ ρ x ∈ l := by
    intro x hx hn
    rw [m.2 x hn]
    exact ⟨rfl, (p.1 x hx hn).2.1⟩
  refine ⟨fun i hi => ?_, fun i hi => ?_, c⟩
  · have hi := List.mem_range.mp hi
    by_cases q : i ∈ l
    · obtain ⟨a1, a2, a3, a4⟩ := m.1 i q
      exact ⟨List.mem_range.mpr (hl _ a1), a2, a3, a4⟩
    · obtain ⟨a1, a2, a3, a4, a5, _⟩ := p.1 i hi q
      rw [(c i hi q).1, m.2 _ a2]
      exact ⟨List.mem_range.mpr a1, a3, a4, a5⟩
  · rw [m.2 i (fun q => hi (hl i q))]
    exact p.2.2 i hi
theorem Pr_step {i j : Nat} {r : List Nat} {π : Nat → Nat} (ok : yOk Y) (p : Pr Y (i :: r) π) (hl : ∀ x, x ∈ i :: r → x < yL Y) (nd : (i :: r).Nodup) (hj : j ∈ r) (mj : yMj Y i j = true) : Pr Y (r.erase j) (up1 (up1 π i j) j i) := by
  have ndr : r.Nodup := (List.nodup_cons.mp nd).2
  have nir : ¬ i ∈ r := (List.nodup_cons.mp nd).1
  have ij : i ≠ j := fun e => nir (e ▸ hj)
  unfold yMj at mj
  rw [decide_eq_true_eq] at mj
  obtain ⟨m1, m2, m3⟩ := mj
  have hi := hl i (by simp)
  have hjL := hl j (List.mem_cons_of_mem _ hj)
  have mem : ∀ x, x ∈ r.erase j ↔ x ∈ r ∧ x ≠ j := fun x => by rw [ndr.mem_erase_iff]; exact And.comm
  have vi : up1 (up1 π i j) j i i = j := by rw [up1_ne _ _ ij, up1_self]
  have vj : up1 (up1 π i j) j i j = i := up1_self _ _ _
  have vo : ∀ x, x ≠ i → x ≠ j → up1 (up1 π i j) j i x = π x := fun x a c => by rw [up1_ne _ _ c, up1_ne _ _ a]
  refine ⟨fun x hx hn => ?_, fun x hx => ?_, fun x hx => ?_⟩
  · by_cases c1 : x = i
    · subst c1
      rw [vi, vj]
      exact ⟨hjL, fun h => ((mem j).mp h).2 rfl, rfl, fun e => ij e.symm, m2, m3⟩
    · by_cases c2 : x = j
      · subst c2
        rw [vj, vi]
        have k : yK Y i = yFo Y (yK Y x) := by
          show _ = bF (yB Y) (yK Y x)
          rw [m2, y_ff ok]
        exact ⟨hi, fun h => nir ((mem i).mp h).1, rfl, ij, k, by omega⟩
      · have q : ¬ x ∈ i :: r := by
          rw [List.mem_cons]
          intro h
          rcases h with h | h
          · exact c1 h
          · exact hn ((mem x).mpr ⟨h, c2⟩)
        obtain ⟨a1, a2, a3, a4, a5, a6⟩ := p.1 x hx q
        have n1 : π x ≠ i := fun e => a2 (by rw [e]; simp)
        have n2 : π x ≠ j := fun e => a2 (by rw [e]; exact List.mem_cons_of_mem _ hj)
        rw [vo x c1 c2, vo _ n1 n2]
        exact ⟨a1, fun h => a2 (List.mem_cons_of_mem _ ((mem _).mp h).1), a3, a4, a5, a6⟩
  · obtain ⟨a, c⟩ := (mem x).mp hx
    rw [vo x (fun e => nir (e ▸ a)) c]
    exact p.2.1 x (List.mem_cons_of_mem _ a)
  · rw [vo x (by omega) (by omega)]
    exact p.2.2 x hx
/-- where mayLead says no, no least row is lost -/
theorem no_lead {i j k u : Nat} {r : List Nat} {π ρ : Nat → Nat} (ok : yOk Y) (p : Pr Y (i :: r) π) (hl : ∀ x, x ∈ i :: r → x < yL Y) (srt : (i :: r).Pairwise (· < ·)) (len : (i :: r).length = 2 * (k + 1)) (hu : ∀ x, x < yL Y → ¬ x ∈ i :: r → yN Y ≤ x → u.testBit (yP Y x) = true) (hj : j ∈ r) (no : ¬ mlP Y i j (mkb (inl r) (yL Y)) u) (ho : okF (yK Y) (yFo Y) i j = true) (h : ρ ∈ yLv Y (k + 1) (i :: r) π) (hi : ρ i = j) : ¬ (cn Y ρ ∧ yLst Y ρ) := by
  have nd := pw_nd srt
  have L12 := ok.2.2.2.2.2.2.1
  have v3 := ok.2.2.2.1.2
  have nir : ¬ i ∈ r := (List.nodup_cons.mp nd).1
  have hir := (List.pairwise_cons.mp srt).1
  obtain ⟨w, o, c⟩ := Pr_row ok p hl len nd h
  have iL := hl i (by simp)
  have jL := hl j (List.mem_cons_of_mem _ hj)
  have lo : ∀ m, m < i → ¬ m ∈ i :: r := by
    intro m hm q
    rw [List.mem_cons] at q
    rcases q with q | q
    · omega
    · have := hir m q
      omega
  have tb : ∀ x, (mkb (inl r) (yL Y)).testBit x = true ↔ x ∈ r := by
    intro x
    rw [mkb_tb]
    unfold inl
    rw [Bool.and_eq_true, decide_eq_true_eq, decide_eq_true_eq]
    exact ⟨fun q => q.2, fun q => ⟨hl x (List.mem_cons_of_mem _ q), q⟩⟩
  rintro ⟨CN, LS⟩
  have ij : i < j := hir j hj
  have mj : yMj Y i j = true := by
    unfold yMj
    rw [decide_eq_true_eq]
    refine ⟨by omega, by unfold okF at ho; rw [beq_iff_eq] at ho; exact ho, ?_⟩
    by_cases q : i < yN Y
    · have := CN.1 i q
      rw [hi] at this
      exact Or.inr this
    · exact Or.inl (by omega)
  apply no
  refine ⟨(tb j).mpr hj, mj, fun x hx mx e => ?_, fun jN fa => ?_⟩
  · have xr := (tb x).mp mx
    have ix := hir x xr
    exact prune_a (fo := yFo Y) (by omega) (y_Gp ok) (y_hk ok) w jL e ix hx hi (fun m hm q => by
      have := (c m (by omega) (lo m hm)).2
      rw [q] at this
      exact this (List.mem_cons_of_mem _ xr)) LS
  · apply Classical.byContradiction
    intro nt
    obtain ⟨q0, qV, qU⟩ := faB_iff.mp fa
    have y3 := yP_lt Y j
    have n1 : ¬ (u ||| pB Y i).testBit (yP Y j - 1) = true := fun q => nt (Or.inl q)
    have n2 : ¬ (u ||| pB Y i).testBit (yP Y j) = true := fun q => nt (Or.inr q)
    have far : ∀ x, x < yL Y → (x = i ∨ ¬ x ∈ i :: r) → yN Y ≤ x → yP Y x ≠ yP Y j - 1 ∧ yP Y x ≠ yP Y j := by
      intro x hx hx2 hN
      have t : (u ||| pB Y i).testBit (yP Y x) = true := by
        rw [Nat.testBit_or]
        rcases hx2 with q | q
        · unfold pB
          rw [← q, if_neg (by omega), Nat.testBit_two_pow_self, Bool.or_true]
        · rw [hu x hx q hN, Bool.true_or]
      exact ⟨fun e => n1 (by rw [← e]; exact t), fun e => n2 (by rw [← e]; exact t)⟩
    have key : ∃ s, s ∈ yPP Y ∧ ivp s = s ∧ spt s (yP Y j) = yP Y j - 1 ∧ ∀ q, q < 3 → q ≠ yP Y j - 1 → q ≠ yP Y j → spt s q = q := by
      have qq : yP Y j = 1 ∨ yP Y j = 2 := by omega
      rcases qq with e | e
      · rw [e] at qU qV ⊢
        refine ⟨1, mem_PP.mpr ⟨by omega, fun q hq => ?_⟩, rfl, rfl, fun q h1 h2 h3 => ?_⟩
        · have qs : q = 0 ∨ q = 1 ∨ q = 2 := by omega
          rcases qs with rfl | rfl | rfl
          · exact ⟨fun _ => ⟨qV, qU⟩, fun h => by omega⟩
          · exact ⟨fun _ => ⟨by show 0 < yV Y; omega, qU.symm⟩, fun h => by omega⟩
          · exact ⟨fun h => ⟨h, rfl⟩, fun _ => rfl⟩
        · have : q = 2 := by omega
          subst this
          rfl
      · rw [e] at qU qV ⊢
        refine ⟨2, mem_PP.mpr ⟨by omega, fun q hq => ?_⟩, rfl, rfl, fun q h1 h2 h3 => ?_⟩
        · have qs : q = 0 ∨ q = 1 ∨ q = 2 := by omega
          rcases qs with rfl | rfl | rfl
          · exact ⟨fun h => ⟨h, rfl⟩, fun _ => rfl⟩
          · exact ⟨fun _ => ⟨qV, qU⟩, fun h => by omega⟩
          · exact ⟨fun _ => ⟨by show 1 < yV Y; omega, qU.symm⟩, fun h => by omega⟩
        · have : q = 0 := by omega
          subst this
          rfl
    obtain ⟨s, hs, iv, sp1, sp2⟩ := key
    have ks := (mem_PP.mp hs).2
    have fixed : ∀ x, x < yL Y → (x = i ∨ ¬ x ∈ i :: r) → yG Y s x = x := by
      intro x hx hx2
      by_cases q : x < yN Y
      · exact g_out (Or.inl q)
      · have f := far x hx hx2 (by omega)
        have a := pt_a ok.2.2.2.1 (show yN Y ≤ x by omega) hx
        rw [(g_in ok ks (show yN Y ≤ x by omega) hx).1, sp2 _ (yP_lt Y x) f.1 f.2]
        omega
    refine prune_b (fo := yFo Y) (by omega) (y_Gp ok) hs w iL (fun m hm => ?_) (fun m hm => ?_) ?_ LS
    · rw [iv]
      by_cases q : m = i
      · exact fixed m (by omega) (Or.inl q)
      · exact fixed m (by omega) (Or.inr (lo m (by omega)))
    · have := c m (by omega) (lo m hm)
      exact fixed (ρ m) (yRw_lt w (by omega)).1 (Or.inr this.2)
    · rw [hi, (g_in ok ks jN jL).1, sp1]
      have a := pt_a ok.2.2.2.1 jN jL
      have z := z34 ok (show yP Y j - 1 < yV Y by omega)
      have e : yS Y (yP Y j) = yS Y (yP Y j - 1) + yZ Y (yP Y j - 1) := by
        conv => lhs; rw [show yP Y j = yP Y j - 1 + 1 by omega]
        rfl
      omega
end S9s
