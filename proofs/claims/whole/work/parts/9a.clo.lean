section C9a
variable {fi kap fo : Nat → Nat} {l PP gens : List Nat} {g cm : Nat → Nat → Nat} {iv : Nat → Nat} {ρ ρ' ρ'' : Nat → Nat}
theorem g_iv (G : Gp fi kap l PP g cm iv) {s : Nat} (hs : s ∈ PP) (i : Nat) : g (iv (iv s)) i = g s i := by
  have h := G.2.2.2.1
  have := ((h _ (h s hs).1).2 (g s i)).1
  rw [((h s hs).2 i).1] at this
  exact this
theorem Eqv.refl (G : Gp fi kap l PP g cm iv) : Eqv fi l PP g iv ρ ρ := ⟨0, G.2.1, fun a b => by rw [cg_0 G]⟩
theorem Eqv.symm (nd : l.Nodup) (G : Gp fi kap l PP g cm iv) (h : Eqv fi l PP g iv ρ ρ') : Eqv fi l PP g iv ρ' ρ := by
  obtain ⟨s, hs, e⟩ := h
  refine ⟨iv s, (G.2.2.2.1 s hs).1, fun a b => ?_⟩
  rw [cg_tl nd G (G.2.2.2.1 s hs).1, g_iv G hs, g_iv G hs, e, cg_tl nd G hs, ((G.2.2.2.1 s hs).2 a).1, ((G.2.2.2.1 s hs).2 b).1]
theorem Eqv.trans (nd : l.Nodup) (G : Gp fi kap l PP g cm iv) (h : Eqv fi l PP g iv ρ ρ') (h' : Eqv fi l PP g iv ρ' ρ'') : Eqv fi l PP g iv ρ ρ'' := by
  obtain ⟨s, hs, e⟩ := h
  obtain ⟨s', hs', e'⟩ := h'
  refine ⟨cm s' s, (G.2.2.2.2 s' s hs' hs).1, fun a b => ?_⟩
  rw [e', cg_cm G hs' hs, cg_tl nd G hs', e, cg_tl nd G hs']
theorem Eqv_tl (G : Gp fi kap l PP g cm iv) (h : ∀ a b, tl fi l ρ' a b = tl fi l ρ a b) : Eqv fi l PP g iv ρ ρ' := ⟨0, G.2.1, fun a b => by rw [cg_0 G, h]⟩
theorem Eqv_sw (nd : l.Nodup) (G : Gp fi kap l PP g cm iv) {x y : Nat} (hx : x ∈ l) (hy : y ∈ l) (e : fi x = fi y) : Eqv fi l PP g iv ρ (cj (sw x y) (sw x y) ρ) := Eqv_tl G (fun a b => Rch_tl nd (Rch.step hx hy e) a b)
theorem Eqv_cg {s : Nat} (hs : s ∈ PP) : Eqv fi l PP g iv ρ (cg g iv s ρ) := ⟨s, hs, fun _ _ => Eq.refl _⟩
/-- the orders of points that are told by gens are all -/
def Gen (PP gens : List Nat) (cm : Nat → Nat → Nat) : Prop := (∀ s, s ∈ gens → s ∈ PP) ∧ ∀ D : Nat → Prop, D 0 → (∀ s s', s ∈ gens → s' ∈ PP → D s' → D (cm s s')) → ∀ s, s ∈ PP → D s
theorem clo (hk : ∀ i j, fi i = fi j → kap i = kap j) (nd : l.Nodup) (G : Gp fi kap l PP g cm iv) (gn : Gen PP gens cm) (h99 : ∀ s, s ∈ PP → g s 99 = 99) (n99 : ¬ 99 ∈ l) (w : Rw kap fo l ρ) (w' : Rw kap fo l ρ') (o : ∀ i, ¬ i ∈ l → ρ i = 99) (o' : ∀ i, ¬ i ∈ l → ρ' i = 99) (C : (Nat → Nat) → Prop) (c0 : C ρ) (c1 : ∀ τ x y, x ∈ l → y ∈ l → fi x = fi y → C τ → C (cj (sw x y) (sw x y) τ)) (c2 : ∀ τ s, s ∈ gens → C τ → C (cg g iv s τ)) (h : Eqv fi l PP g iv ρ ρ') : C ρ' := by
  obtain ⟨s, hs, e⟩ := h
  have cs : C (cg g iv s ρ) := by
    refine gn.2 (fun s => C (cg g iv s ρ)) ?_ ?_ s hs
    · show C (cg g iv 0 ρ)
      rw [cg_0 G]
      exact c0
    · intro s s' h1 h2 h3
      show C (cg g iv (cm s s') ρ)
      rw [cg_cm G (gn.1 s h1) h2]
      exact c2 _ s h1 h3
  obtain ⟨τ, r, v⟩ := conn_tl hk l.length l _ ρ' (Nat.le_refl _) nd (cg_rw G hs w) w' (fun a b => (e a b).symm)
  have ct : C τ := r C c1 cs
  have : τ = ρ' := by
    funext i
    by_cases c : i ∈ l
    · exact v i c
    · have ni : ¬ g (iv s) i ∈ l := by
        intro h
        have := (G.bij hs (g (iv s) i) h).1
        rw [((G.2.2.2.1 s hs).2 i).2.1] at this
        exact c this
      have q : cg g iv s ρ i = 99 := by
        show g s (ρ (g (iv s) i)) = 99
        rw [o _ ni, h99 s hs]
      rw [r.out c (by rw [q]; exact n99), q, o' i c]
  rw [← this]
  exact ct
/-- the least row of the joins that ρ has with its points in another order -/
def lst (fi : Nat → Nat) (l : List Nat) (k : Nat) (g : Nat → Nat → Nat) (iv : Nat → Nat) (s : Nat) (ρ : Nat → Nat) : Nat → Nat := gr fi k l (jt fi l (cg g iv s ρ)) (fun _ => 99)
def Lst (fi kap fo : Nat → Nat) (L : Nat) (PP : List Nat) (g : Nat → Nat → Nat) (iv : Nat → Nat) (ρ : Nat → Nat) : Prop := ∀ ρ', Rw kap fo (List.range L) ρ' → Eqv fi (List.range L) PP g iv ρ ρ' → eN ρ L ≤ eN ρ' L
theorem pw_range (n : Nat) : (List.range n).Pairwise (· < ·) := List.pairwise_lt_range
theorem lst_ok {L k s : Nat} (hk : ∀ i j, fi i = fi j → kap i = kap j) (hL : L = 2 * k) (h16 : L ≤ 16) (G : Gp fi kap (List.range L) PP g cm iv) (w : Rw kap fo (List.range L) ρ) (hs : s ∈ PP) : Rw kap fo (List.range L) (lst fi (List.range L) k g iv s ρ) ∧ (∀ a b, tl fi (List.range L) (lst fi (List.range L) k g iv s ρ) a b = tl fi (List.range L) (cg g iv s ρ) a b) ∧ (∀ i, ¬ i < L → lst fi (List.range L) k g iv s ρ i = 99) ∧ ∀ ρ', Rw kap fo (List.range L) ρ' → (∀ a b, tl fi (List.range L) ρ' a b = tl fi (List.range L) (cg g iv s ρ) a b) → eN (lst fi (List.range L) k g iv s ρ) L ≤ eN ρ' L := by
  obtain ⟨a1, a2, a3, a4⟩ := gr_least hk k (List.range L) (jt fi (List.range L) (cg g iv s ρ)) (fun _ => 99) (cg g iv s ρ) (by rw [List.length_range, hL]) (pw_range L) (cg_rw G hs w) (fun _ _ => Eq.refl _)
  refine ⟨a1, a2, fun i hi => a3 i (by rw [List.mem_range]; exact hi), fun ρ' w' t' => ?_⟩
  apply lxle_eN (a4 ρ' w' t')
  intro m hm
  have := List.mem_range.mp (a1 m (List.mem_range.mpr hm)).1
  show lst fi (List.range L) k g iv s ρ m < 16
  unfold lst
  omega
theorem Lst_iff {L k : Nat} (hk : ∀ i j, fi i = fi j → kap i = kap j) (hL : L = 2 * k) (h16 : L ≤ 16) (G : Gp fi kap (List.range L) PP g cm iv) (w : Rw kap fo (List.range L) ρ) : Lst fi kap fo L PP g iv ρ ↔ ∀ s, s ∈ PP → eN ρ L ≤ eN (lst fi (List.range L) k g iv s ρ) L := by
  constructor
  · intro h s hs
    obtain ⟨a1, a2, a3, a4⟩ := lst_ok hk hL h16 G w hs
    exact h _ a1 ⟨s, hs, a2⟩
  · intro h ρ' w' e
    obtain ⟨s, hs, e⟩ := e
    obtain ⟨a1, a2, a3, a4⟩ := lst_ok hk hL h16 G w hs
    exact Nat.le_trans (h s hs) (a4 ρ' w' e)
theorem fxd_eq {L k : Nat} (hk : ∀ i j, fi i = fi j → kap i = kap j) (hL : L = 2 * k) (h16 : L ≤ 16) (G : Gp fi kap (List.range L) PP g cm iv) (w : Rw kap fo (List.range L) ρ) (h : Lst fi kap fo L PP g iv ρ) : fxd fi (List.range L) PP g iv ρ = PP.countP (fun s => eN (lst fi (List.range L) k g iv s ρ) L == eN ρ L) := by
  unfold fxd
  apply countP_cg
  intro s hs
  obtain ⟨a1, a2, a3, a4⟩ := lst_ok hk hL h16 G w hs
  rw [Bool.eq_iff_iff, eqT_iff, beq_iff_eq]
  constructor
  · intro e
    have x1 := a4 ρ w (fun a b => (e a b).symm)
    have x2 := (Lst_iff hk hL h16 G w).mp h s hs
    omega
  · intro e a b
    have q := eN_inj (fun m hm => by
      have := List.mem_range.mp (a1 m (List.mem_range.mpr hm)).1
      omega) (fun m hm => by
      have := List.mem_range.mp (w m (List.mem_range.mpr hm)).1
      omega) e
    rw [← a2]
    unfold tl
    apply countP_cg
    intro i hi
    rw [q i (List.mem_range.mp hi)]
/-- a row in which a join goes past a leg alike that is left isn't least -/
theorem prune_a {L i j j1 : Nat} (h16 : L ≤ 16) (G : Gp fi kap (List.range L) PP g cm iv) (hk : ∀ i j, fi i = fi j → kap i = kap j) (w : Rw kap fo (List.range L) ρ) (hj : j < L) (e : fi j1 = fi j) (h1 : i < j1) (h2 : j1 < j) (hi : ρ i = j) (h3 : ∀ m, m < i → ρ m ≠ j1) : ¬ Lst fi kap fo L PP g iv ρ := by
  intro h
  have m1 : j1 ∈ List.range L := List.mem_range.mpr (by omega)
  have m2 : j ∈ List.range L := List.mem_range.mpr hj
  have r := Rch.step (fi := fi) (π := ρ) m1 m2 e
  have q := h _ (r.rw hk w) (Eqv_sw List.nodup_range G m1 m2 e)
  have lt := eN_lt (π := cj (sw j1 j) (sw j1 j) ρ) (π' := ρ) (i := i) (m := L) (by
    show sw j1 j (ρ (sw j1 j i)) < ρ i
    have s1 : sw j1 j i = i := by unfold sw; grind
    rw [s1, hi]
    unfold sw
    grind) (fun m hm => by
    show sw j1 j (ρ (sw j1 j m)) = ρ m
    have s1 : sw j1 j m = m := by unfold sw; grind
    have s2 : ρ m ≠ j := by
      intro e2
      have a := (w m (List.mem_range.mpr (by omega))).2.1
      have b := (w i (List.mem_range.mpr (by omega))).2.1
      rw [e2] at a
      rw [hi] at b
      omega
    have s3 := h3 m hm
    rw [s1]
    unfold sw
    grind) (by omega) (fun m hm => by
    have := List.mem_range.mp ((r.rw hk w) m (List.mem_range.mpr hm)).1
    omega)
  omega
/-- a row in which a point is come to ahead of one alike isn't least -/
theorem prune_b {L i s : Nat} (h16 : L ≤ 16) (G : Gp fi kap (List.range L) PP g cm iv) (hs : s ∈ PP) (w : Rw kap fo (List.range L) ρ) (hiL : i < L) (h1 : ∀ m, m ≤ i → g (iv s) m = m) (h2 : ∀ m, m < i → g s (ρ m) = ρ m) (h3 : g s (ρ i) < ρ i) : ¬ Lst fi kap fo L PP g iv ρ := by
  intro h
  have q := h _ (cg_rw G hs w) (Eqv_cg hs)
  have lt := eN_lt (π := cg g iv s ρ) (π' := ρ) (i := i) (m := L) (by
    show g s (ρ (g (iv s) i)) < ρ i
    rw [h1 i (by omega)]
    exact h3) (fun m hm => by
    show g s (ρ (g (iv s) m)) = ρ m
    rw [h1 m (by omega)]
    exact h2 m hm) hiL (fun m hm => by
    have := List.mem_range.mp ((cg_rw G hs w) m (List.mem_range.mpr hm)).1
    omega)
  omega
end C9a
