/-! HOW MANY rows look alike; which one is listed. -/
section AGa
variable {Y : Ly} {ρ ρ' : Nat → Nat}
noncomputable abbrev eqB (Y : Ly) (ρ ρ' : Nat → Nat) : Bool := eqv (yF Y) (List.range (yL Y)) (yPP Y) (yG Y) ivp ρ ρ'
noncomputable def obN (Y : Ly) (ρ : Nat → Nat) : Nat := (yRows Y).countP (eqB Y ρ)
theorem eqB_iff : eqB Y ρ ρ' = true ↔ yEq Y ρ ρ' := eqv_iff
/-- orbit times alikes is namings -/
theorem ob_al (ok : yOk Y) (w : yRw Y ρ) : obN Y ρ * alN Y ρ = yNa Y := by
  have ev := ok.2.2.2.2.2.2.2
  exact orb_count (y_hk ok) (y_ff ok) (y_Gp ok) (k := yL Y / 2) (by rw [List.length_range]; omega) (pw_range _) w (fun _ => 99)
theorem ob_hg (ok : yOk Y) (h : ρ ∈ yHg Y) : obN Y ρ = (yHg Y).countP (eqB Y ρ) := by
  obtain ⟨w, o, c⟩ := (yHg_mem ok).mp h
  unfold obN
  rw [List.countP_eq_length_filter, List.countP_eq_length_filter]
  congr 1
  show _ = ((yRows Y).filter (cnB Y)).filter (eqB Y ρ)
  rw [List.filter_filter]
  apply List.filter_congr
  intro τ hτ
  rw [Bool.eq_iff_iff, Bool.and_eq_true, eqB_iff, cnB_iff]
  constructor
  · intro e
    have m := (yRows_mem ok).mp hτ
    exact ⟨e, Eqv_cn ok w m.1 o m.2 e c⟩
  · intro e
    exact e.1
theorem len0 : ∀ V : List Nat, V.length = (V.filter (fun x => decide (x ≠ 0))).length + (V.filter (fun x => decide (x = 0))).length
  | [] => rfl
  | x :: r => by
    have ih := len0 r
    rw [List.filter_cons, List.filter_cons, List.length_cons]
    by_cases c : x = 0
    · rw [if_neg (by simp [c]), if_pos (by simp [c]), List.length_cons]
      omega
    · rw [if_pos (by simp [c]), if_neg (by simp [c]), List.length_cons]
      omega
theorem cntP_ix {α : Type} (p : α → Bool) : ∀ (l : List α) (V : List Nat), V.Nodup → (∀ x, x ∈ V ↔ ∃ a, l[x]? = some a ∧ p a = true) → V.length = l.countP p := by
  intro l
  induction l with
  | nil =>
    intro V nd h
    have : V = [] := by
      apply List.eq_nil_iff_forall_not_mem.mpr
      intro x hx
      obtain ⟨a, e, _⟩ := (h x).mp hx
      simp at e
    rw [this]
    rfl
  | cons a r ih =>
    intro V nd h
    have q := ih ((V.filter (fun x => decide (x ≠ 0))).map (fun x => x - 1)) (nd_map (nd.sublist List.filter_sublist) (fun x y hx hy e => by
      have a1 := of_decide_eq_true (List.mem_filter.mp hx).2
      have a2 := of_decide_eq_true (List.mem_filter.mp hy).2
      omega)) (by
      intro x
      rw [List.mem_map]
      constructor
      · rintro ⟨y, hy, rfl⟩
        obtain ⟨h1, h2⟩ := List.mem_filter.mp hy
        have h2 := of_decide_eq_true h2
        obtain ⟨b, e, pb⟩ := (h y).mp h1
        refine ⟨b, ?_, pb⟩
        rw [show y = (y - 1) + 1 by omega, List.getElem?_cons_succ] at e
        exact e
      · rintro ⟨b, e, pb⟩
        refine ⟨x + 1, List.mem_filter.mpr ⟨(h (x + 1)).mpr ⟨b, by rw [List.getElem?_cons_succ]; exact e, pb⟩, decide_eq_true (by omega)⟩, by omega⟩)
    rw [List.length_map] at q
    rw [List.countP_cons, ← q]
    have z : (0 ∈ V) ↔ p a = true := by
      rw [h 0]
      constructor
      · rintro ⟨b, e, pb⟩
        rw [List.getElem?_cons_zero] at e
        rw [Option.some.inj e]
        exact pb
      · intro pa
        exact ⟨a, List.getElem?_cons_zero, pa⟩
    have split : V.length = (V.filter (fun x => decide (x ≠ 0))).length + (V.filter (fun x => decide (x = 0))).length := len0 V
    rw [split]
    congr 1
    by_cases c : p a = true
    · rw [if_pos c]
      have pm : (V.filter (fun x => decide (x = 0))).Perm [0] := by
        apply nd_perm (nd.sublist List.filter_sublist) (by simp)
        intro x
        rw [List.mem_filter, decide_eq_true_eq, List.mem_singleton]
        constructor
        · exact fun h => h.2
        · rintro rfl
          exact ⟨z.mpr c, rfl⟩
      rw [pm.length_eq]
      rfl
    · rw [if_neg c, List.length_eq_zero_iff, List.filter_eq_nil_iff]
      intro x hx e
      rw [decide_eq_true_eq] at e
      subst e
      exact c (z.mp hx)
/-- a row is the least of its drawing if none ahead of it looks like it -/
theorem fst_lst (ok : yOk Y) {k : Nat} (hk : (yHg Y)[k]? = some ρ) : yLst Y ρ ↔ ∀ (j : Nat) (τ : Nat → Nat), j < k → (yHg Y)[j]? = some τ → ¬ yEq Y τ ρ := by
  have L12 := ok.2.2.2.2.2.2.1
  obtain ⟨w, o, c⟩ := (yHg_mem ok).mp (List.mem_of_getElem? hk)
  have P := List.pairwise_iff_getElem.mp (yHg_srt ok)
  obtain ⟨kl, ke⟩ := List.getElem?_eq_some_iff.mp hk
  have R16 : ∀ {τ : Nat → Nat}, yRw Y τ → ∀ i, i < yL Y → τ i < 16 := fun wt i hi => by have := (yRw_lt wt hi).1; omega
  constructor
  · intro h j τ jk hj e
    obtain ⟨wt, ot, ct⟩ := (yHg_mem ok).mp (List.mem_of_getElem? hj)
    obtain ⟨jl, je⟩ := List.getElem?_eq_some_iff.mp hj
    have lt := P j k jl kl jk
    rw [je, ke] at lt
    have le := h τ wt (Eqv.symm List.nodup_range (y_Gp ok) e)
    have q := (e12_le L12 (R16 w) (fun i hi => o i (by omega)) (R16 wt) (fun i hi => ot i (by omega))).1
    rw [← q] at le
    omega
  · intro h τ wt e
    apply Classical.byContradiction
    intro hn
    let τ' : Nat → Nat := prm τ (yL Y)
    have e' : ∀ i, i < yL Y → τ' i = τ i := fun i hi => by
      show prm τ (yL Y) i = τ i
      unfold prm
      rw [if_pos hi]
    have o' : ∀ i, ¬ i < yL Y → τ' i = 99 := fun i hi => by
      show prm τ (yL Y) i = 99
      unfold prm
      rw [if_neg hi]
    have w' : yRw Y τ' := by
      intro i hi
      have hi' := List.mem_range.mp hi
      obtain ⟨a1, a2, a3, a4⟩ := yRw_lt wt hi'
      rw [e' i hi']
      exact ⟨List.mem_range.mpr a1, by rw [e' _ a1, a2], a3, a4⟩
    have eq' : yEq Y ρ τ' := by
      obtain ⟨s, hs, t⟩ := e
      refine ⟨s, hs, fun a b => ?_⟩
      rw [← t]
      unfold tl
      apply countP_cg
      intro i hi
      rw [e' i (List.mem_range.mp hi)]
    have m : τ' ∈ yHg Y := (yHg_mem ok).mpr ⟨w', o', Eqv_cn ok w w' o o' eq' c⟩
    obtain ⟨j, hj⟩ := List.getElem?_of_mem m
    obtain ⟨jl, je⟩ := List.getElem?_eq_some_iff.mp hj
    have en : eN τ' (yL Y) = eN τ (yL Y) := eN_cg e'
    have q := (e12_le L12 (R16 w) (fun i hi => o i (by omega)) (R16 w') (fun i hi => o' i (by omega))).1
    have nle : ¬ e12 ρ ≤ e12 τ' := by
      rw [q, en]
      exact hn
    have jk : j < k := by
      rcases Nat.lt_trichotomy j k with g | g | g
      · exact g
      · subst g
        rw [je] at ke
        rw [ke] at nle
        omega
      · have := P k j kl jl g
        rw [je, ke] at this
        omega
    exact h j τ' jk hj (Eqv.symm List.nodup_range (y_Gp ok) eq')
theorem nwL_hg (ok : yOk Y) (gi : Nat) : nwL Y gi (yRows Y) = nwL Y gi (yHg Y) := by
  unfold nwL
  congr 1
  show _ = ((yRows Y).filter (cnB Y)).filter (kpr Y)
  rw [List.filter_filter]
  apply List.filter_congr
  intro τ _
  rw [Bool.eq_iff_iff, Bool.and_eq_true, kpr_iff, cnB_iff]
  exact ⟨fun h => ⟨h, h.1⟩, fun h => h.1⟩
end AGa
