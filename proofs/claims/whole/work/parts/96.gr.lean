theorem Rw_cons {kap fo : Nat → Nat} {i j : Nat} {r : List Nat} {π : Nat → Nat} (nd : (i :: r).Nodup) (hj : j ∈ r) (e1 : π i = j) (e2 : π j = i) (k1 : kap j = fo (kap i)) (k2 : kap i = fo (kap j)) (w : Rw kap fo (r.erase j) π) : Rw kap fo (i :: r) π := by
  have ndr : r.Nodup := (List.nodup_cons.mp nd).2
  have nir : ¬ i ∈ r := (List.nodup_cons.mp nd).1
  have hne : j ≠ i := fun h => nir (h ▸ hj)
  intro k hk
  by_cases c : k = i
  · subst c
    rw [e1]
    exact ⟨List.mem_cons_of_mem _ hj, e2, hne, k1⟩
  · by_cases d : k = j
    · subst d
      rw [e2]
      exact ⟨by simp, e1, Ne.symm hne, k2⟩
    · have hk' : k ∈ r.erase j := by
        rw [ndr.mem_erase_iff]
        rw [List.mem_cons] at hk
        exact ⟨d, hk.resolve_left c⟩
      obtain ⟨a1, a2, a3, a4⟩ := w k hk'
      exact ⟨List.mem_cons_of_mem _ (List.mem_of_mem_erase a1), a2, a3, a4⟩
def dc (t : Nat → Nat → Nat) (a b : Nat) : Nat → Nat → Nat := fun x y => if a = x ∧ b = y ∨ a = y ∧ b = x then t x y - 1 else t x y
/-- the least row with the joins t -/
def gr (fi : Nat → Nat) : Nat → List Nat → (Nat → Nat → Nat) → (Nat → Nat) → (Nat → Nat)
  | 0, _, _, π => π
  | _ + 1, [], _, π => π
  | k + 1, i :: r, t, π => match r.find? (fun j => decide (0 < t (fi i) (fi j))) with
    | none => gr fi k r t π
    | some j => gr fi k (r.erase j) (dc t (fi i) (fi j)) (up1 (up1 π i j) j i)
/-- up to the first leg where they differ, and there less -/
def lxle (l : List Nat) (π ρ : Nat → Nat) : Prop := (∀ i, i ∈ l → π i = ρ i) ∨ ∃ i, i ∈ l ∧ π i < ρ i ∧ ∀ k, k ∈ l → k < i → π k = ρ k
theorem find_sorted {r : List Nat} {p : Nat → Bool} (hs : r.Pairwise (· < ·)) {j : Nat} (h : r.find? p = some j) : j ∈ r ∧ p j = true ∧ ∀ x, x ∈ r → p x = true → j ≤ x := by
  rw [List.find?_eq_some_iff_append] at h
  obtain ⟨h1, as, bs, e, h2⟩ := h
  subst e
  refine ⟨by simp, h1, fun x hx px => ?_⟩
  rw [List.pairwise_append] at hs
  rw [List.mem_append, List.mem_cons] at hx
  rcases hx with hx | hx | hx
  · have := h2 x hx
    rw [px] at this
    simp at this
  · omega
  · have := (List.pairwise_cons.mp hs.2.1).1 x hx
    omega
theorem pw_nd {l : List Nat} (h : l.Pairwise (· < ·)) : l.Nodup := h.imp (fun h => by omega)
theorem pw_er {l : List Nat} {j : Nat} (h : l.Pairwise (· < ·)) : (l.erase j).Pairwise (· < ·) := h.sublist List.erase_sublist
theorem gr_least {fi kap fo : Nat → Nat} (hk : ∀ i j, fi i = fi j → kap i = kap j) : ∀ (k : Nat) (l : List Nat) (t : Nat → Nat → Nat) (π0 ρ : Nat → Nat), l.length = 2 * k → l.Pairwise (· < ·) → Rw kap fo l ρ → (∀ a b, t a b = jt fi l ρ a b) → Rw kap fo l (gr fi k l t π0) ∧ (∀ a b, tl fi l (gr fi k l t π0) a b = tl fi l ρ a b) ∧ (∀ i, ¬ i ∈ l → gr fi k l t π0 i = π0 i) ∧ ∀ ρ', Rw kap fo l ρ' → (∀ a b, tl fi l ρ' a b = tl fi l ρ a b) → lxle l (gr fi k l t π0) ρ' := by
  intro k
  induction k with
  | zero =>
    intro l t π0 ρ h1 _ _ _
    have : l = [] := List.length_eq_zero_iff.mp (by omega)
    subst this
    refine ⟨fun i hi => by simp at hi, fun a b => by simp [tl], fun i _ => rfl, fun ρ' _ _ => Or.inl (fun i hi => by simp at hi)⟩
  | succ k ih =>
    intro l t π0 ρ h1 hs w ht
    match l, h1, hs, w, ht with
    | [], h1, _, _, _ => simp at h1
    | i :: r, h1, hs, w, ht =>
      have nd := pw_nd hs
      have ndr : r.Nodup := (List.nodup_cons.mp nd).2
      have nir : ¬ i ∈ r := (List.nodup_cons.mp nd).1
      have hsr := (List.pairwise_cons.mp hs).2
      have hir := (List.pairwise_cons.mp hs).1
      have h0 := w i (by simp)
      have hr0 := (Rw_tail nd w).1
      have p0 : 0 < t (fi i) (fi (ρ i)) := by
        rw [ht]
        exact (jt_pos w).mpr ⟨i, by simp, Eq.refl _, Eq.refl _⟩
      cases hf : r.find? (fun j => decide (0 < t (fi i) (fi j))) with
      | none =>
        rw [List.find?_eq_none] at hf
        exact absurd (decide_eq_true p0) (hf _ hr0)
      | some j =>
        obtain ⟨hj, pj, lj⟩ := find_sorted hsr hf
        have pj := of_decide_eq_true pj
        have eg : gr fi (k + 1) (i :: r) t π0 = gr fi k (r.erase j) (dc t (fi i) (fi j)) (up1 (up1 π0 i j) j i) := by rw [gr, hf]
        rw [eg]
        rw [ht] at pj
        obtain ⟨x, x1, x2, x3⟩ := (jt_pos w).mp pj
        have hij : i ≠ j := fun e => nir (e ▸ hj)
        obtain ⟨ρ1, r1, v1⟩ := exch hk w (by simp) (List.mem_cons_of_mem _ hj) hij x1 x2 x3
        have w1 := r1.rw hk w
        have wt1 := (Rw_tail nd w1).2
        rw [v1] at wt1
        have tt1 := Rch_tl nd r1
        have g1 := w1 i (by simp)
        rw [v1] at g1
        have g2 := w1 j (List.mem_cons_of_mem _ hj)
        rw [g1.2.1] at g2
        have hd : ∀ a b, dc t (fi i) (fi j) a b = jt fi (r.erase j) ρ1 a b := by
          intro a b
          have e1 := jt_tail (fi := fi) nd w1 a b
          rw [v1, jt_of_tl nd w1 w tt1 a b] at e1
          unfold dc
          rw [ht a b, e1]
          by_cases c : fi i = a ∧ fi j = b ∨ fi i = b ∧ fi j = a
          · rw [if_pos c, if_pos c]; omega
          · rw [if_neg c, if_neg c]; omega
        have len : (r.erase j).length = 2 * k := by
          rw [List.length_erase_of_mem hj]
          simp at h1
          omega
        obtain ⟨b1, b2, b3, b4⟩ := ih (r.erase j) _ (up1 (up1 π0 i j) j i) ρ1 len (pw_er hsr) wt1 hd
        have q1 : ¬ i ∈ r.erase j := fun h => nir (List.mem_of_mem_erase h)
        have q2 : ¬ j ∈ r.erase j := fun h => ((ndr.mem_erase_iff).mp h).1 (Eq.refl _)
        generalize hg : gr fi k (r.erase j) (dc t (fi i) (fi j)) (up1 (up1 π0 i j) j i) = π at *
        have e1 : π i = j := by rw [b3 i q1, up1_ne _ _ hij, up1_self]
        have e2 : π j = i := by rw [b3 j q2, up1_self]
        have W := Rw_cons nd hj e1 e2 g1.2.2.2 g2.2.2.2 b1
        refine ⟨W, ?_, ?_, ?_⟩
        · intro a b
          rw [tl_tail nd W, ← tt1, tl_tail nd w1, v1, e1, b2]
        · intro m hm
          rw [List.mem_cons] at hm
          have m1 : m ≠ i := fun e => hm (Or.inl e)
          have m2 : m ≠ j := fun e => hm (Or.inr (e ▸ hj))
          rw [b3 m (fun h => hm (Or.inr (List.mem_of_mem_erase h))), up1_ne _ _ m2, up1_ne _ _ m1]
        · intro ρ' w' t'
          have h0' := w' i (by simp)
          obtain ⟨hr', wt'⟩ := Rw_tail nd w'
          have p' : 0 < t (fi i) (fi (ρ' i)) := by
            rw [ht, ← jt_of_tl nd w' w t']
            exact (jt_pos w').mpr ⟨i, by simp, Eq.refl _, Eq.refl _⟩
          have le := lj (ρ' i) hr' (decide_eq_true p')
          by_cases c : ρ' i = j
          · rw [c] at wt'
            have t2 : ∀ a b, tl fi (r.erase j) ρ' a b = tl fi (r.erase j) ρ1 a b := by
              intro a b
              have f1 := tl_tail (fi := fi) nd w' a b
              have f2 := tl_tail (fi := fi) nd w1 a b
              rw [c] at f1
              rw [v1] at f2
              have f3 := t' a b
              have f4 := tt1 a b
              omega
            rcases b4 ρ' wt' t2 with h | ⟨m, m1, m2, m3⟩
            · left
              intro m hm
              by_cases d : m = i
              · subst d; rw [e1, c]
              · by_cases e : m = j
                · subst e
                  rw [e2, ← c, h0'.2.1]
                · apply h
                  rw [ndr.mem_erase_iff]
                  rw [List.mem_cons] at hm
                  exact ⟨e, hm.resolve_left d⟩
            · right
              refine ⟨m, List.mem_cons_of_mem _ (List.mem_of_mem_erase m1), m2, fun n hn hlt => ?_⟩
              by_cases d : n = i
              · subst d; rw [e1, c]
              · by_cases e : n = j
                · subst e
                  rw [e2, ← c, h0'.2.1]
                · apply m3 n _ hlt
                  rw [ndr.mem_erase_iff]
                  rw [List.mem_cons] at hn
                  exact ⟨e, hn.resolve_left d⟩
          · right
            refine ⟨i, by simp, by rw [e1]; omega, fun n hn hlt => ?_⟩
            rw [List.mem_cons] at hn
            rcases hn with hn | hn
            · omega
            · have := hir n hn
              omega
theorem lxle_eN {L : Nat} {π ρ : Nat → Nat} (h : lxle (List.range L) π ρ) (h16 : ∀ k, k < L → π k < 16) : eN π L ≤ eN ρ L := by
  rcases h with h | ⟨i, h1, h2, h3⟩
  · exact Nat.le_of_eq (eN_cg (fun i hi => h i (List.mem_range.mpr hi)))
  · have hi := List.mem_range.mp h1
    exact Nat.le_of_lt (eN_lt h2 (fun k hk => h3 k (List.mem_range.mpr (by omega)) hk) hi h16)
