/-! POINTS put in another order: a group PP of namings g s of legs; the rows that look alike up to it. -/
def Gp (fi kap : Nat → Nat) (l : List Nat) (PP : List Nat) (g cm : Nat → Nat → Nat) (iv : Nat → Nat) : Prop :=
  PP.Nodup ∧ 0 ∈ PP ∧ (∀ i, g 0 i = i) ∧ (∀ s, s ∈ PP → iv s ∈ PP ∧ ∀ i, g (iv s) (g s i) = i ∧ g s (g (iv s) i) = i ∧ fi (g s i) = g s (fi i) ∧ kap (g s i) = kap i ∧ (i ∈ l → g s i ∈ l)) ∧ ∀ s s', s ∈ PP → s' ∈ PP → cm s s' ∈ PP ∧ cm (iv s) (cm s s') = s' ∧ cm s (cm (iv s) s') = s' ∧ ∀ i, g (cm s s') i = g s (g s' i)
section O99
variable {fi kap fo : Nat → Nat} {l PP : List Nat} {g cm : Nat → Nat → Nat} {iv : Nat → Nat} {ρ : Nat → Nat}
/-- the row ρ, its points put in another order by s -/
def cg (g : Nat → Nat → Nat) (iv : Nat → Nat) (s : Nat) (ρ : Nat → Nat) : Nat → Nat := cj (g s) (g (iv s)) ρ
theorem Gp.bij (G : Gp fi kap l PP g cm iv) {s : Nat} (hs : s ∈ PP) : Bij l (g s) (g (iv s)) := by
  obtain ⟨_, _, _, h, _⟩ := G
  intro i hi
  have a := (h s hs).2 i
  have b := (h (iv s) (h s hs).1).2 i
  exact ⟨a.2.2.2.2 hi, b.2.2.2.2 hi, a.1, a.2.1⟩
theorem cg_tl (nd : l.Nodup) (G : Gp fi kap l PP g cm iv) {s : Nat} (hs : s ∈ PP) (a b : Nat) : tl fi l (cg g iv s ρ) a b = tl fi l ρ (g (iv s) a) (g (iv s) b) := by
  have bj := G.bij hs
  obtain ⟨_, _, _, h, _⟩ := G
  unfold cg
  rw [tl_cj nd bj]
  unfold tl
  apply countP_cg
  intro i _
  have q : ∀ x c, (fi (g s x) == c) = (fi x == g (iv s) c) := by
    intro x c
    rw [Bool.eq_iff_iff, beq_iff_eq, beq_iff_eq, ((h s hs).2 x).2.2.1]
    constructor
    · intro e
      rw [← e, ((h s hs).2 (fi x)).1]
    · intro e
      rw [e, ((h s hs).2 c).2.1]
  rw [q, q]
theorem cg_rw (G : Gp fi kap l PP g cm iv) {s : Nat} (hs : s ∈ PP) (w : Rw kap fo l ρ) : Rw kap fo l (cg g iv s ρ) := Rw_cj (G.bij hs) (fun i _ => ((G.2.2.2.1 s hs).2 i).2.2.2.1) w
theorem cg_cm (G : Gp fi kap l PP g cm iv) {s s' : Nat} (hs : s ∈ PP) (hs' : s' ∈ PP) : cg g iv (cm s s') ρ = cg g iv s (cg g iv s' ρ) := by
  obtain ⟨_, _, _, h, c⟩ := G
  obtain ⟨c1, _, _, c4⟩ := c s s' hs hs'
  funext i
  show g (cm s s') (ρ (g (iv (cm s s')) i)) = g s (g s' (ρ (g (iv s') (g (iv s) i))))
  rw [c4]
  congr 3
  have e : g (cm s s') (g (iv s') (g (iv s) i)) = i := by rw [c4, ((h s' hs').2 _).2.1, ((h s hs).2 _).2.1]
  have e2 := ((h _ c1).2 (g (iv s') (g (iv s) i))).1
  rw [e] at e2
  exact e2
theorem cg_0 (G : Gp fi kap l PP g cm iv) : cg g iv 0 ρ = ρ := by
  obtain ⟨_, z, z1, h, _⟩ := G
  funext i
  show g 0 (ρ (g (iv 0) i)) = ρ i
  rw [z1]
  congr 1
  have := ((h 0 z).2 i).2.1
  rw [z1] at this
  exact this
/-- how many orders of the points leave the joins' numbers as they are -/
noncomputable def fxd (fi : Nat → Nat) (l PP : List Nat) (g : Nat → Nat → Nat) (iv : Nat → Nat) (ρ : Nat → Nat) : Nat := PP.countP (fun s => eqT fi l (tl fi l ρ) (cg g iv s ρ))
/-- ρ' looks as ρ does, up to the order of points and of alike legs -/
def Eqv (fi : Nat → Nat) (l PP : List Nat) (g : Nat → Nat → Nat) (iv : Nat → Nat) (ρ ρ' : Nat → Nat) : Prop := ∃ s, s ∈ PP ∧ ∀ a b, tl fi l ρ' a b = tl fi l (cg g iv s ρ) a b
noncomputable def eqv (fi : Nat → Nat) (l PP : List Nat) (g : Nat → Nat → Nat) (iv : Nat → Nat) (ρ ρ' : Nat → Nat) : Bool := @decide (Eqv fi l PP g iv ρ ρ') (Classical.propDecidable _)
theorem eqv_iff {ρ' : Nat → Nat} : eqv fi l PP g iv ρ ρ' = true ↔ Eqv fi l PP g iv ρ ρ' := by
  unfold eqv
  exact @decide_eq_true_iff _ (Classical.propDecidable _)
theorem fxd_at (nd : l.Nodup) (G : Gp fi kap l PP g cm iv) {ρ' : Nat → Nat} (h : Eqv fi l PP g iv ρ ρ') : PP.countP (fun s => eqT fi l (tl fi l (cg g iv s ρ)) ρ') = fxd fi l PP g iv ρ := by
  obtain ⟨s0, h0, e0⟩ := h
  have G' := G
  obtain ⟨ndp, z, z1, h, c⟩ := G
  have bj : Bij PP (cm s0) (cm (iv s0)) := by
    intro s hs
    have c1 := c s0 s h0 hs
    have i0 := (h s0 h0).1
    have c2 := c (iv s0) s i0 hs
    exact ⟨c1.1, c2.1, c1.2.1, c1.2.2.1⟩
  unfold fxd
  rw [← (mp_perm ndp bj).countP_eq, List.countP_map]
  apply countP_cg
  intro s hs
  show eqT fi l (tl fi l (cg g iv (cm s0 s) ρ)) ρ' = _
  rw [Bool.eq_iff_iff, eqT_iff, eqT_iff]
  constructor
  · intro e a b
    have := e (g s0 a) (g s0 b)
    rw [e0, cg_cm G' h0 hs, cg_tl nd G' h0, cg_tl nd G' h0, ((h s0 h0).2 a).1, ((h s0 h0).2 b).1] at this
    exact this.symm
  · intro e a b
    rw [e0, cg_cm G' h0 hs, cg_tl nd G' h0, cg_tl nd G' h0, e]
theorem sm_countF {α : Type} (r : List Nat) (q : Nat → α → Bool) : ∀ lf : List α, (r.map (fun s => lf.countP (q s))).sum = (lf.map (fun x => r.countP (fun s => q s x))).sum
  | [] => by
    simp only [List.countP_nil, List.map_nil, List.sum_nil]
    exact sm_zero r
  | x :: lf => by
    have ih := sm_countF r q lf
    rw [List.map_cons, List.sum_cons, ← ih]
    have e : r.countP (fun s => q s x) = (r.map (fun s => if q s x = true then 1 else 0)).sum := by rw [sm_if, Nat.mul_one]
    rw [e, ← sm_add]
    apply sm_cg
    intro s _
    rw [List.countP_cons, Nat.add_comm]
theorem sm_ifF {α : Type} (q : α → Bool) (K : Nat) : ∀ r : List α, (r.map (fun j => if q j = true then K else 0)).sum = r.countP q * K
  | [] => by simp
  | x :: r => by
    have ih := sm_ifF q K r
    simp only [List.map_cons, List.sum_cons, List.countP_cons] at *
    rw [ih, Nat.add_mul]
    by_cases c : q x = true
    · simp only [c, if_true]; omega
    · rw [if_neg c, if_neg c]; omega
theorem aP_map {u : Nat × Nat → Nat × Nat} : ∀ {q : List (Nat × Nat)}, (∀ x, x ∈ q → ((u x).1 = (u x).2 ↔ x.1 = x.2) ∧ ∀ y, y ∈ q → u x = u y → x = y) → aP (q.map u) = aP q
  | [], _ => rfl
  | x :: q, h => by
    have ih := aP_map (u := u) (q := q) (fun y hy => ⟨(h y (List.mem_cons_of_mem _ hy)).1, fun z hz => (h y (List.mem_cons_of_mem _ hy)).2 z (List.mem_cons_of_mem _ hz)⟩)
    have e : (q.map u).count (u x) = q.count x := by
      rw [List.count, List.countP_map, List.count]
      apply countP_cgF
      intro y hy
      rw [Bool.eq_iff_iff]
      simp only [Function.comp, beq_iff_eq]
      constructor
      · intro k
        exact ((h x (by simp)).2 y (List.mem_cons_of_mem _ hy) k.symm).symm
      · intro k
        rw [k]
    have f : (if (u x).1 = (u x).2 then 2 else 1 : Nat) = if x.1 = x.2 then 2 else 1 := by
      by_cases c : x.1 = x.2
      · rw [if_pos c, if_pos ((h x (by simp)).1.mpr c)]
      · rw [if_neg c, if_neg (fun k => c ((h x (by simp)).1.mp k))]
    rw [List.map_cons, aP, aP, ih, e, f]
/-- the legs alike are turned with the points: aF stays -/
theorem aF_u {fi' : Nat → Nat} {u v : Nat → Nat} (hv : ∀ i, v (u i) = i) (h : ∀ i, fi' i = u (fi i)) : aF fi' l ρ = aF fi l ρ := by
  have e : pl fi' l ρ = (pl fi l ρ).map (fun x => nm (u x.1) (u x.2)) := by
    unfold pl
    rw [List.map_map]
    apply List.map_congr_left
    intro i _
    simp only [Function.comp, h]
    unfold nm
    rcases Nat.le_total (fi i) (fi (ρ i)) with c | c
    · rw [Nat.min_eq_left c, Nat.max_eq_right c]
    · rw [Nat.min_eq_right c, Nat.max_eq_left c]
      exact nm_eq.mpr (Or.inr ⟨rfl, rfl⟩)
  unfold aF
  rw [e]
  apply aP_map
  intro x hx
  constructor
  · constructor
    · intro k
      have k' : u x.1 = u x.2 := by
        unfold nm at k
        simp only at k
        omega
      rw [← hv x.1, k', hv]
    · intro k
      unfold nm
      rw [k]
      simp
  · intro y hy k
    rw [pl_norm hx, pl_norm hy]
    rw [nm_eq] at k ⊢
    rcases k with ⟨k1, k2⟩ | ⟨k1, k2⟩
    · left
      exact ⟨by rw [← hv x.1, k1, hv], by rw [← hv x.2, k2, hv]⟩
    · right
      exact ⟨by rw [← hv x.1, k1, hv], by rw [← hv x.2, k2, hv]⟩
theorem aF_cg (nd : l.Nodup) (G : Gp fi kap l PP g cm iv) (w : Rw kap fo l ρ) {s : Nat} (hs : s ∈ PP) : aF fi l (cg g iv s ρ) = aF fi l ρ := by
  have e1 : aF fi l (cg g iv s ρ) = aF (fun i => g s (fi i)) l ρ := by
    apply aF_tl nd (cg_rw G hs w) w
    intro a b
    unfold cg
    rw [tl_cj nd (G.bij hs)]
    unfold tl
    apply countP_cg
    intro i _
    rw [((G.2.2.2.1 s hs).2 i).2.2.1, ((G.2.2.2.1 s hs).2 (ρ i)).2.2.1]
  rw [e1]
  exact aF_u (u := g s) (v := g (iv s)) (fun i => ((G.2.2.2.1 s hs).2 i).1) (fun i => rfl)
/-- how many rows are of one drawing, times how many namings leave it alike -/
theorem orb_count (hk : ∀ i j, fi i = fi j → kap i = kap j) (ff : ∀ i, fo (fo (kap i)) = kap i) (G : Gp fi kap l PP g cm iv) {k : Nat} (hl : l.length = 2 * k) (hs : l.Pairwise (· < ·)) (w : Rw kap fo l ρ) (π : Nat → Nat) : (lv (okF kap fo) k l π).countP (eqv fi l PP g iv ρ) * (fxd fi l PP g iv ρ * aF fi l ρ) = PP.length * Hn fi l := by
  have nd := pw_nd hs
  have e1 : ∀ s, s ∈ PP → (lv (okF kap fo) k l π).countP (eqT fi l (tl fi l (cg g iv s ρ))) * aF fi l ρ = Hn fi l := by
    intro s h
    have := cnt_row hk ff k l π (cg g iv s ρ) hl hs (cg_rw G h w)
    rw [aF_cg nd G w h] at this
    exact this
  have e2 : (PP.map (fun s => (lv (okF kap fo) k l π).countP (eqT fi l (tl fi l (cg g iv s ρ))))).sum * aF fi l ρ = PP.length * Hn fi l := by
    rw [sm_mul]
    have : PP.length * Hn fi l = (PP.map (fun _ => Hn fi l)).sum := by
      have h := sm_if (fun _ => true) (Hn fi l) PP
      simp only [if_true] at h
      rw [h, List.countP_true]
    rw [this]
    exact sm_cg e1
  rw [← e2, ← Nat.mul_assoc, sm_countF PP (fun s => eqT fi l (tl fi l (cg g iv s ρ)))]
  congr 1
  rw [← sm_ifF]
  congr 1
  apply List.map_congr_left
  intro ρ' _
  by_cases c : eqv fi l PP g iv ρ ρ' = true
  · rw [if_pos c]
    exact (fxd_at nd G (eqv_iff.mp c)).symm
  · rw [if_neg c]
    symm
    rw [List.countP_eq_zero]
    intro s h1 h2
    exact c (eqv_iff.mpr ⟨s, h1, eqT_iff.mp h2⟩)
end O99
