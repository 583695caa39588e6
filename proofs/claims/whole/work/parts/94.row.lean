/-! ROWS: legs joined two by two, as functions; fi: the first leg alike. -/
def Rw (kap fo : Nat → Nat) (l : List Nat) (π : Nat → Nat) : Prop := ∀ i, i ∈ l → π i ∈ l ∧ π (π i) = i ∧ π i ≠ i ∧ kap (π i) = fo (kap i)
def sw (x y i : Nat) : Nat := if i = x then y else if i = y then x else i
theorem sw_sw (x y i : Nat) : sw x y (sw x y i) = i := by
  unfold sw
  grind
theorem sw_mem {l : List Nat} {x y : Nat} (hx : x ∈ l) (hy : y ∈ l) {i : Nat} (h : i ∈ l) : sw x y i ∈ l := by
  unfold sw
  grind
theorem sw_out {l : List Nat} {x y : Nat} (hx : x ∈ l) (hy : y ∈ l) {i : Nat} (h : ¬ i ∈ l) : sw x y i = i := by
  unfold sw
  grind
/-- a row with its legs named anew by s (s' goes back) -/
def cj (s s' : Nat → Nat) (π : Nat → Nat) : Nat → Nat := fun i => s (π (s' i))
def tl (fi : Nat → Nat) (l : List Nat) (π : Nat → Nat) (a b : Nat) : Nat := l.countP (fun i => fi i == a && fi (π i) == b)
/-- s and s' go to and fro within l -/
def Bij (l : List Nat) (s s' : Nat → Nat) : Prop := (∀ i, i ∈ l → s i ∈ l ∧ s' i ∈ l ∧ s' (s i) = i ∧ s (s' i) = i)
theorem mp_perm {l : List Nat} (nd : l.Nodup) {s s' : Nat → Nat} (h : Bij l s s') : (l.map s).Perm l := by
  have n2 : (l.map s).Nodup := by
    rw [List.Nodup, List.pairwise_map]
    refine List.Pairwise.imp_of_mem ?_ nd
    intro a b ha hb hab e
    apply hab
    rw [← (h a ha).2.2.1, ← (h b hb).2.2.1, e]
  rw [List.perm_ext_iff_of_nodup n2 nd]
  intro a
  rw [List.mem_map]
  constructor
  · rintro ⟨b, hb, rfl⟩; exact (h b hb).1
  · intro ha; exact ⟨s' a, (h a ha).2.1, (h a ha).2.2.2⟩
theorem countP_cg {l : List Nat} {p q : Nat → Bool} (h : ∀ i, i ∈ l → p i = q i) : l.countP p = l.countP q := by
  apply List.countP_congr
  intro i hi
  rw [h i hi]
theorem tl_cj {fi : Nat → Nat} {l : List Nat} {π s s' : Nat → Nat} (nd : l.Nodup) (h : Bij l s s') (a b : Nat) : tl fi l (cj s s' π) a b = l.countP (fun k => fi (s k) == a && fi (s (π k)) == b) := by
  unfold tl
  rw [← (mp_perm nd h).countP_eq, List.countP_map]
  apply countP_cg
  intro i hi
  simp only [Function.comp, cj, (h i hi).2.2.1]
theorem Rw_cj {kap fo : Nat → Nat} {l : List Nat} {π s s' : Nat → Nat} (h : Bij l s s') (hk : ∀ i, i ∈ l → kap (s i) = kap i) (w : Rw kap fo l π) : Rw kap fo l (cj s s' π) := by
  intro i hi
  obtain ⟨a1, a2, a3, a4⟩ := h i hi
  obtain ⟨b1, b2, b3, b4⟩ := w (s' i) a2
  obtain ⟨c1, c2, c3, c4⟩ := h _ b1
  refine ⟨c1, ?_, ?_, ?_⟩
  · show s (π (s' (s (π (s' i))))) = i
    rw [c3, b2, a4]
  · show s (π (s' i)) ≠ i
    intro e
    apply b3
    rw [← c3, e]
  · show kap (s (π (s' i))) = fo (kap i)
    rw [hk _ b1, b4, ← hk _ a2, a4]
theorem sw_bij {l : List Nat} {x y : Nat} (hx : x ∈ l) (hy : y ∈ l) : Bij l (sw x y) (sw x y) := fun i hi => ⟨sw_mem hx hy hi, sw_mem hx hy hi, sw_sw x y i, sw_sw x y i⟩
theorem sw_fi {fi : Nat → Nat} {x y : Nat} (h : fi x = fi y) (i : Nat) : fi (sw x y i) = fi i := by
  unfold sw
  grind
/-- reached by putting alike legs of l in each other's place -/
def Rch (fi : Nat → Nat) (l : List Nat) (π π' : Nat → Nat) : Prop := ∀ C : (Nat → Nat) → Prop, (∀ ρ x y, x ∈ l → y ∈ l → fi x = fi y → C ρ → C (cj (sw x y) (sw x y) ρ)) → C π → C π'
theorem Rch.rfl {fi : Nat → Nat} {l : List Nat} {π : Nat → Nat} : Rch fi l π π := fun _ _ h => h
theorem Rch.trans {fi : Nat → Nat} {l : List Nat} {π π' π'' : Nat → Nat} (h : Rch fi l π π') (g : Rch fi l π' π'') : Rch fi l π π'' := fun C s c => g C s (h C s c)
theorem Rch.step {fi : Nat → Nat} {l : List Nat} {π : Nat → Nat} {x y : Nat} (hx : x ∈ l) (hy : y ∈ l) (e : fi x = fi y) : Rch fi l π (cj (sw x y) (sw x y) π) := fun C s c => s π x y hx hy e c
theorem Rch.sub {fi : Nat → Nat} {l l' : List Nat} {π π' : Nat → Nat} (h : Rch fi l π π') (g : ∀ i, i ∈ l → i ∈ l') : Rch fi l' π π' := fun C s c => h C (fun ρ x y hx hy => s ρ x y (g x hx) (g y hy)) c
theorem Rch.rw {fi kap fo : Nat → Nat} {l : List Nat} {π π' : Nat → Nat} (hk : ∀ i j, fi i = fi j → kap i = kap j) (w : Rw kap fo l π) (h : Rch fi l π π') : Rw kap fo l π' :=
  h (Rw kap fo l) (fun ρ x y hx hy e c => Rw_cj (sw_bij hx hy) (fun i _ => hk _ _ (sw_fi e i)) c) w
theorem Rch_tl {fi : Nat → Nat} {l : List Nat} {π π' : Nat → Nat} (nd : l.Nodup) (h : Rch fi l π π') (a b : Nat) : tl fi l π' a b = tl fi l π a b := by
  refine h (fun ρ => tl fi l ρ a b = tl fi l π a b) ?_ (Eq.refl _)
  intro ρ x y hx hy e c
  rw [tl_cj nd (sw_bij hx hy), ← c]
  unfold tl
  apply countP_cg
  intro i _
  rw [sw_fi e, sw_fi e]
theorem Rch.out {fi : Nat → Nat} {l : List Nat} {π π' : Nat → Nat} (h : Rch fi l π π') {i : Nat} (hi : ¬ i ∈ l) (hp : ¬ π i ∈ l) : π' i = π i := by
  refine h (fun ρ => ρ i = π i) ?_ (Eq.refl _)
  intro ρ x y hx hy _ c
  show sw x y (ρ (sw x y i)) = π i
  rw [sw_out hx hy hi, c, sw_out hx hy hp]
/-- a join of these kinds of legs can be brought to the legs i and j -/
theorem exch {fi kap fo : Nat → Nat} {l : List Nat} {π : Nat → Nat} (hk : ∀ i j, fi i = fi j → kap i = kap j) (w : Rw kap fo l π) {i j x : Nat} (hi : i ∈ l) (hj : j ∈ l) (hij : i ≠ j) (hx : x ∈ l) (e1 : fi x = fi i) (e2 : fi (π x) = fi j) : ∃ π', Rch fi l π π' ∧ π' i = j := by
  have r1 : Rch fi l π (cj (sw x i) (sw x i) π) := Rch.step hx hi e1
  have w1 := r1.rw hk w
  have v1 : cj (sw x i) (sw x i) π i = sw x i (π x) := by
    show sw x i (π (sw x i i)) = _
    have : sw x i i = x := by
      unfold sw
      grind
    rw [this]
  have y1 : fi (cj (sw x i) (sw x i) π i) = fi j := by rw [v1, sw_fi e1, e2]
  obtain ⟨m1, _, m3, _⟩ := w1 i hi
  refine ⟨_, r1.trans (Rch.step m1 hj y1), ?_⟩
  generalize hz : cj (sw x i) (sw x i) π = ρ at *
  show sw (ρ i) j (ρ (sw (ρ i) j i)) = j
  have s1 : sw (ρ i) j i = i := by
    unfold sw
    grind
  rw [s1]
  unfold sw
  grind
/-- without its first leg and that one's partner -/
theorem Rw_tail {kap fo : Nat → Nat} {i : Nat} {r : List Nat} {π : Nat → Nat} (nd : (i :: r).Nodup) (w : Rw kap fo (i :: r) π) : π i ∈ r ∧ Rw kap fo (r.erase (π i)) π := by
  have h0 := w i (by simp)
  have hj : π i ∈ r := by
    have := h0.1
    rw [List.mem_cons] at this
    rcases this with h | h
    · exact absurd h h0.2.2.1
    · exact h
  have ndr : r.Nodup := (List.nodup_cons.mp nd).2
  have nir : ¬ i ∈ r := (List.nodup_cons.mp nd).1
  refine ⟨hj, fun k hk => ?_⟩
  rw [ndr.mem_erase_iff] at hk
  obtain ⟨hk1, hk2⟩ := hk
  obtain ⟨a1, a2, a3, a4⟩ := w k (by simp [hk2])
  have h5 : π k ≠ i := fun e => hk1 (by rw [← e, a2])
  have h6 : π k ≠ π i := fun e => by
    have : k = i := by rw [← a2, e, h0.2.1]
    exact nir (this ▸ hk2)
  refine ⟨?_, a2, a3, a4⟩
  rw [ndr.mem_erase_iff]
  refine ⟨h6, ?_⟩
  rw [List.mem_cons] at a1
  rcases a1 with h | h
  · exact absurd h h5
  · exact h
theorem tl_tail {kap fo fi : Nat → Nat} {i : Nat} {r : List Nat} {π : Nat → Nat} (nd : (i :: r).Nodup) (w : Rw kap fo (i :: r) π) (a b : Nat) : tl fi (i :: r) π a b = tl fi (r.erase (π i)) π a b + (if fi i = a ∧ fi (π i) = b then 1 else 0) + (if fi (π i) = a ∧ fi i = b then 1 else 0) := by
  have h0 := w i (by simp)
  have hj := (Rw_tail nd w).1
  unfold tl
  rw [List.countP_cons, (List.perm_cons_erase hj).countP_eq, List.countP_cons, h0.2.1]
  simp only [Bool.and_eq_true, beq_iff_eq]
  omega
theorem tl_pos {fi : Nat → Nat} {l : List Nat} {π : Nat → Nat} {a b : Nat} : 0 < tl fi l π a b ↔ ∃ x, x ∈ l ∧ fi x = a ∧ fi (π x) = b := by
  unfold tl
  rw [List.countP_pos_iff]
  simp only [Bool.and_eq_true, beq_iff_eq]
/-- rows with the same numbers of joins are reached from each other -/
theorem conn_tl {fi kap fo : Nat → Nat} (hk : ∀ i j, fi i = fi j → kap i = kap j) : ∀ (n : Nat) (l : List Nat) (π π' : Nat → Nat), l.length ≤ n → l.Nodup → Rw kap fo l π → Rw kap fo l π' → (∀ a b, tl fi l π a b = tl fi l π' a b) → ∃ ρ, Rch fi l π ρ ∧ ∀ i, i ∈ l → ρ i = π' i := by
  intro n
  induction n with
  | zero =>
    intro l π π' h1 _ _ _ _
    have : l = [] := List.length_eq_zero_iff.mp (by omega)
    subst this
    exact ⟨π, Rch.rfl, fun i hi => by simp at hi⟩
  | succ n ih =>
    intro l π π' h1 nd w w' ht
    match l, h1, nd, w, w', ht with
    | [], _, _, _, _, _ => exact ⟨π, Rch.rfl, fun i hi => by simp at hi⟩
    | i :: r, h1, nd, w, w', ht =>
      have h0 := w' i (by simp)
      obtain ⟨hj, wt'⟩ := Rw_tail nd w'
      have p : 0 < tl fi (i :: r) π (fi i) (fi (π' i)) := by
        rw [ht]
        exact tl_pos.mpr ⟨i, by simp, Eq.refl _, Eq.refl _⟩
      obtain ⟨x, x1, x2, x3⟩ := tl_pos.mp p
      obtain ⟨π1, r1, v1⟩ := exch hk w (by simp) h0.1 (Ne.symm h0.2.2.1) x1 x2 x3
      have w1 := r1.rw hk w
      have wt1 := (Rw_tail nd w1).2
      rw [v1] at wt1
      have ndr : r.Nodup := (List.nodup_cons.mp nd).2
      have nir : ¬ i ∈ r := (List.nodup_cons.mp nd).1
      have ht1 : ∀ a b, tl fi (r.erase (π' i)) π1 a b = tl fi (r.erase (π' i)) π' a b := by
        intro a b
        have e1 := tl_tail (fi := fi) nd w1 a b
        have e2 := tl_tail (fi := fi) nd w' a b
        have e3 := Rch_tl nd r1 a b
        rw [v1] at e1
        have e4 := ht a b
        omega
      obtain ⟨ρ, r2, v2⟩ := ih (r.erase (π' i)) π1 π' (by rw [List.length_erase_of_mem hj]; simp at h1; omega) (ndr.erase _) wt1 wt' ht1
      have sub : ∀ k, k ∈ r.erase (π' i) → k ∈ i :: r := fun k hk => List.mem_cons_of_mem _ (List.mem_of_mem_erase hk)
      refine ⟨ρ, r1.trans (r2.sub sub), fun k hk => ?_⟩
      have q1 : ¬ i ∈ r.erase (π' i) := fun h => nir (List.mem_of_mem_erase h)
      have q2 : ¬ π' i ∈ r.erase (π' i) := fun h => ((ndr.mem_erase_iff).mp h).1 (Eq.refl _)
      have j1 : π1 (π' i) = i := by
        have := (w1 i (by simp)).2.1
        rw [v1] at this
        exact this
      by_cases c : k = i
      · subst c
        rw [r2.out q1 (by rw [v1]; exact q2), v1]
      · by_cases d : k = π' i
        · subst d
          rw [r2.out q2 (by rw [j1]; exact q1), j1, h0.2.1]
        · apply v2
          rw [ndr.mem_erase_iff]
          rw [List.mem_cons] at hk
          rcases hk with h | h
          · exact absurd h c
          · exact ⟨d, h⟩
