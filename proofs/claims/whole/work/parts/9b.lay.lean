/-! THE LAYOUT: ends, points by their rules, their legs. -/
abbrev Ly : Type := Bk × Nat × (Nat → Nat) × Nat × (Nat → Nat)
def yB (Y : Ly) : Bk := Y.1
def yN (Y : Ly) : Nat := Y.2.1
def yE (Y : Ly) : Nat → Nat := Y.2.2.1
def yV (Y : Ly) : Nat := Y.2.2.2.1
def yU (Y : Ly) : Nat → Nat := Y.2.2.2.2
def yZ (Y : Ly) (p : Nat) : Nat := bZ (yB Y) (yU Y p)
/-- where the legs of a point begin -/
def yS (Y : Ly) : Nat → Nat
  | 0 => yN Y
  | p + 1 => yS Y p + yZ Y p
def yL (Y : Ly) : Nat := yS Y (yV Y)
/-- the point of a leg -/
def yP (Y : Ly) (i : Nat) : Nat := if i < yS Y 1 then 0 else if i < yS Y 2 then 1 else 2
/-- its kind; its node; the first leg alike -/
def yK (Y : Ly) (i : Nat) : Nat := if i < yN Y then yE Y i else if i < yL Y then bG (yB Y) (yU Y (yP Y i)) (i - yS Y (yP Y i)) else yE Y 0
def yD (Y : Ly) (i : Nat) : Nat := if i < yN Y then i else yN Y + yP Y i
def fx (h : Nat → Nat) (k : Nat) : Nat := if h 0 = h k then 0 else if h 1 = h k then 1 else if h 2 = h k then 2 else k
def yF (Y : Ly) (i : Nat) : Nat := if i < yN Y ∨ yL Y ≤ i then i else yS Y (yP Y i) + fx (bG (yB Y) (yU Y (yP Y i))) (i - yS Y (yP Y i))
def yOk (Y : Ly) : Prop := bkOk (yB Y) ∧ (1 ≤ yN Y ∧ yN Y ≤ 6) ∧ (∀ i, i < yN Y → yE Y i < bK (yB Y)) ∧ (1 ≤ yV Y ∧ yV Y ≤ 3) ∧ (∀ p, p < yV Y → yU Y p < bR (yB Y)) ∧ (∀ p, p + 1 < yV Y → yU Y p ≤ yU Y (p + 1)) ∧ yL Y ≤ 12 ∧ yL Y % 2 = 0
def spT : List Nat := [0, 1, 2, 1, 0, 2, 0, 2, 1, 1, 2, 0, 2, 0, 1, 2, 1, 0]
def spt (s q : Nat) : Nat := spT.getD (3 * s + q) 0
def cmT : List Nat := [0, 1, 2, 3, 4, 5, 1, 0, 3, 2, 5, 4, 2, 4, 0, 5, 1, 3, 3, 5, 1, 4, 0, 2, 4, 2, 5, 0, 3, 1, 5, 3, 4, 1, 2, 0]
def cmp (a b : Nat) : Nat := cmT.getD (6 * a + b) 0
def ivT : List Nat := [0, 1, 2, 4, 3, 5]
def ivp (a : Nat) : Nat := ivT.getD a 0
theorem sp_cm : ∀ a, a < 6 → ∀ b, b < 6 → cmp a b < 6 ∧ ∀ q, q < 3 → spt (cmp a b) q = spt a (spt b q) := by decide +kernel
theorem sp_iv : ∀ a, a < 6 → ivp a < 6 ∧ (∀ q, q < 3 → spt a q < 3 ∧ spt (ivp a) (spt a q) = q ∧ spt a (spt (ivp a) q) = q) ∧ ∀ b, b < 6 → cmp (ivp a) (cmp a b) = b ∧ cmp a (cmp (ivp a) b) = b := by decide +kernel
/-- the order s of the points keeps their rules -/
def kp (Y : Ly) (s : Nat) : Prop := ∀ q, q < 3 → (q < yV Y → spt s q < yV Y ∧ yU Y (spt s q) = yU Y q) ∧ (yV Y ≤ q → spt s q = q)
def yG (Y : Ly) (s i : Nat) : Nat := if i < yN Y ∨ yL Y ≤ i then i else yS Y (spt s (yP Y i)) + (i - yS Y (yP Y i))
def kpB (Y : Ly) (s : Nat) : Bool := (List.range 3).all (fun q => if q < yV Y then decide (spt s q < yV Y) && decide (yU Y (spt s q) = yU Y q) else decide (spt s q = q))
theorem kpB_iff {Y : Ly} {s : Nat} : kpB Y s = true ↔ kp Y s := by
  unfold kpB kp
  rw [List.all_eq_true]
  constructor
  · intro h q hq
    have := h q (List.mem_range.mpr hq)
    by_cases c : q < yV Y
    · rw [if_pos c, Bool.and_eq_true, decide_eq_true_eq, decide_eq_true_eq] at this
      exact ⟨fun _ => this, fun h => by omega⟩
    · rw [if_neg c, decide_eq_true_eq] at this
      exact ⟨fun h => absurd h c, fun _ => this⟩
  · intro h q hq
    obtain ⟨h1, h2⟩ := h q (List.mem_range.mp hq)
    by_cases c : q < yV Y
    · rw [if_pos c, Bool.and_eq_true, decide_eq_true_eq, decide_eq_true_eq]
      exact h1 c
    · rw [if_neg c, decide_eq_true_eq]
      exact h2 (by omega)
def yPP (Y : Ly) : List Nat := (List.range 6).filter (kpB Y)
theorem mem_PP {Y : Ly} {s : Nat} : s ∈ yPP Y ↔ s < 6 ∧ kp Y s := by
  unfold yPP
  rw [List.mem_filter, List.mem_range, kpB_iff]
section B9b
variable {Y : Ly}
theorem pt_a (ok : 1 ≤ yV Y ∧ yV Y ≤ 3) {i : Nat} (h1 : yN Y ≤ i) (h2 : i < yL Y) : yP Y i < yV Y ∧ yS Y (yP Y i) ≤ i ∧ i < yS Y (yP Y i) + yZ Y (yP Y i) := by
  obtain ⟨v1, v3⟩ := ok
  unfold yL at h2
  have v : yV Y = 1 ∨ yV Y = 2 ∨ yV Y = 3 := by omega
  unfold yP
  by_cases c1 : i < yS Y 1
  · rw [if_pos c1]
    simp only [yS] at *
    omega
  · rw [if_neg c1]
    by_cases c2 : i < yS Y 2
    · rw [if_pos c2]
      rcases v with v | v | v <;> rw [v] at h2 <;> simp only [yS] at * <;> omega
    · rw [if_neg c2]
      rcases v with v | v | v <;> rw [v] at h2 <;> simp only [yS] at * <;> omega
theorem pt_b (ok : 1 ≤ yV Y ∧ yV Y ≤ 3) {i p : Nat} (hp : p < yV Y) (h1 : yS Y p ≤ i) (h2 : i < yS Y p + yZ Y p) : yP Y i = p ∧ yN Y ≤ i ∧ i < yL Y := by
  obtain ⟨v1, v3⟩ := ok
  have v : yV Y = 1 ∨ yV Y = 2 ∨ yV Y = 3 := by omega
  have hp3 : p = 0 ∨ p = 1 ∨ p = 2 := by omega
  have s0 : yS Y 0 = yN Y := rfl
  have s1 : yS Y 1 = yN Y + yZ Y 0 := rfl
  have s2 : yS Y 2 = yN Y + yZ Y 0 + yZ Y 1 := rfl
  have s3 : yS Y 3 = yN Y + yZ Y 0 + yZ Y 1 + yZ Y 2 := rfl
  refine ⟨?_, ?_, ?_⟩
  · unfold yP
    rcases hp3 with rfl | rfl | rfl
    · rw [if_pos (by omega)]
    · rw [if_neg (by omega), if_pos (by omega)]
    · rw [if_neg (by omega), if_neg (by omega)]
  · rcases hp3 with rfl | rfl | rfl <;> omega
  · unfold yL
    rcases hp3 with rfl | rfl | rfl <;> rcases v with v | v | v <;> rw [v] at hp ⊢ <;> omega
theorem z34 (ok : yOk Y) {p : Nat} (hp : p < yV Y) : 3 ≤ yZ Y p ∧ yZ Y p ≤ 4 := by
  have := ok.1.2.2.2 (yU Y p) (ok.2.2.2.2.1 p hp)
  exact ⟨this.1, this.2.1⟩
theorem fx_le (h : Nat → Nat) {k : Nat} (hk : k ≤ 3) : fx h k ≤ k ∧ h (fx h k) = h k := by
  unfold fx
  have : k = 0 ∨ k = 1 ∨ k = 2 ∨ k = 3 := by omega
  grind
theorem fx_eq (h : Nat → Nat) {k m : Nat} (hk : k ≤ 3) (hm : m ≤ 3) : fx h k = fx h m ↔ h k = h m := by
  constructor
  · intro e
    rw [← (fx_le h hk).2, e, (fx_le h hm).2]
  · intro e
    have a : k = 0 ∨ k = 1 ∨ k = 2 ∨ k = 3 := by omega
    have b : m = 0 ∨ m = 1 ∨ m = 2 ∨ m = 3 := by omega
    unfold fx
    grind
/-- what a naming of points does to a leg of a point -/
theorem g_in (ok : yOk Y) {s i : Nat} (hk : kp Y s) (h1 : yN Y ≤ i) (h2 : i < yL Y) : yG Y s i = yS Y (spt s (yP Y i)) + (i - yS Y (yP Y i)) ∧ yP Y (yG Y s i) = spt s (yP Y i) ∧ yN Y ≤ yG Y s i ∧ yG Y s i < yL Y ∧ yS Y (spt s (yP Y i)) ≤ yG Y s i := by
  obtain ⟨a1, a2, a3⟩ := pt_a ok.2.2.2.1 h1 h2
  have e : yG Y s i = yS Y (spt s (yP Y i)) + (i - yS Y (yP Y i)) := by
    unfold yG
    rw [if_neg (by omega)]
  obtain ⟨b1, b2⟩ := (hk (yP Y i) (by have := ok.2.2.2.1.2; omega)).1 a1
  have z : yZ Y (spt s (yP Y i)) = yZ Y (yP Y i) := by
    unfold yZ
    rw [b2]
  obtain ⟨c1, c2, c3⟩ := pt_b ok.2.2.2.1 (i := yG Y s i) b1 (by omega) (by omega)
  exact ⟨e, c1, c2, c3, by omega⟩
theorem g_out {s i : Nat} (h : i < yN Y ∨ yL Y ≤ i) : yG Y s i = i := by
  unfold yG
  rw [if_pos h]
theorem f_in (ok : yOk Y) {i : Nat} (h1 : yN Y ≤ i) (h2 : i < yL Y) : yF Y i = yS Y (yP Y i) + fx (bG (yB Y) (yU Y (yP Y i))) (i - yS Y (yP Y i)) ∧ yP Y (yF Y i) = yP Y i ∧ yN Y ≤ yF Y i ∧ yF Y i ≤ i ∧ fx (bG (yB Y) (yU Y (yP Y i))) (i - yS Y (yP Y i)) ≤ i - yS Y (yP Y i) ∧ i - yS Y (yP Y i) ≤ 3 := by
  obtain ⟨a1, a2, a3⟩ := pt_a ok.2.2.2.1 h1 h2
  have z := z34 ok a1
  have e : yF Y i = yS Y (yP Y i) + fx (bG (yB Y) (yU Y (yP Y i))) (i - yS Y (yP Y i)) := by
    unfold yF
    rw [if_neg (by omega)]
  have l := (fx_le (bG (yB Y) (yU Y (yP Y i))) (k := i - yS Y (yP Y i)) (by omega)).1
  obtain ⟨c1, c2, c3⟩ := pt_b ok.2.2.2.1 (i := yF Y i) a1 (by omega) (by omega)
  exact ⟨e, c1, c2, by omega, l, by omega⟩
theorem f_out {i : Nat} (h : i < yN Y ∨ yL Y ≤ i) : yF Y i = i := by
  unfold yF
  rw [if_pos h]
theorem k_in {i : Nat} (h1 : yN Y ≤ i) (h2 : i < yL Y) : yK Y i = bG (yB Y) (yU Y (yP Y i)) (i - yS Y (yP Y i)) := by
  unfold yK
  rw [if_neg (by omega), if_pos h2]
theorem N_le (ok : yOk Y) : yN Y ≤ yL Y := by
  obtain ⟨_, _, _, ⟨v1, v3⟩, _⟩ := ok
  have v : yV Y = 1 ∨ yV Y = 2 ∨ yV Y = 3 := by omega
  unfold yL
  rcases v with v | v | v <;> rw [v] <;> simp only [yS] <;> omega
theorem f_alike (ok : yOk Y) {i j : Nat} (h1 : yN Y ≤ i) (h2 : i < yL Y) (g1 : yN Y ≤ j) (g2 : j < yL Y) : yF Y i = yF Y j ↔ yP Y i = yP Y j ∧ yK Y i = yK Y j := by
  obtain ⟨a1, a2, a3, a4, a5, a6⟩ := f_in ok h1 h2
  obtain ⟨b1, b2, b3, b4, b5, b6⟩ := f_in ok g1 g2
  rw [k_in h1 h2, k_in g1 g2]
  constructor
  · intro e
    have p : yP Y i = yP Y j := by rw [← a2, e, b2]
    refine ⟨p, ?_⟩
    rw [a1, b1, ← p] at e
    rw [← p]
    rw [← p] at b6
    exact (fx_eq _ a6 b6).mp (by omega)
  · rintro ⟨p, e⟩
    rw [← p] at e b6 b1
    rw [a1, b1, (fx_eq _ a6 b6).mpr e]
theorem y_hk (ok : yOk Y) : ∀ i j, yF Y i = yF Y j → yK Y i = yK Y j := by
  intro i j e
  have nl := N_le ok
  by_cases c1 : i < yN Y ∨ yL Y ≤ i
  · rw [f_out c1] at e
    by_cases c2 : j < yN Y ∨ yL Y ≤ j
    · rw [f_out c2] at e
      rw [e]
    · have := f_in ok (i := j) (by omega) (by omega)
      omega
  · by_cases c2 : j < yN Y ∨ yL Y ≤ j
    · rw [f_out c2] at e
      have := f_in ok (i := i) (by omega) (by omega)
      omega
    · exact ((f_alike ok (by omega) (by omega) (by omega) (by omega)).mp e).2
theorem k_lt (ok : yOk Y) (i : Nat) : yK Y i < bK (yB Y) := by
  unfold yK
  by_cases c : i < yN Y
  · rw [if_pos c]; exact ok.2.2.1 i c
  · rw [if_neg c]
    by_cases d : i < yL Y
    · rw [if_pos d]
      obtain ⟨a1, a2, a3⟩ := pt_a ok.2.2.2.1 (by omega) d
      have := (ok.1.2.2.2 (yU Y (yP Y i)) (ok.2.2.2.2.1 _ a1)).2.2.2.2.2 (i - yS Y (yP Y i)) (by unfold yZ at a3; omega)
      exact this.1
    · rw [if_neg d]; exact ok.2.2.1 0 (by have := ok.2.1; omega)
theorem y_ff (ok : yOk Y) : ∀ i, bF (yB Y) (bF (yB Y) (yK Y i)) = yK Y i := fun i => (ok.1.1.2 (yK Y i) (k_lt ok i)).2.1
theorem kp_cm (ok : yOk Y) {s s' : Nat} (h1 : s < 6) (h2 : s' < 6) (k1 : kp Y s) (k2 : kp Y s') : kp Y (cmp s s') := by
  intro q hq
  have e := (sp_cm s h1 s' h2).2 q hq
  have l3 := ((sp_iv s' h2).2.1 q hq).1
  rw [e]
  constructor
  · intro hv
    obtain ⟨a, b⟩ := (k2 q hq).1 hv
    obtain ⟨c, d⟩ := (k1 (spt s' q) l3).1 a
    exact ⟨c, by rw [d, b]⟩
  · intro hv
    have a := (k2 q hq).2 hv
    rw [a]
    exact (k1 q hq).2 hv
theorem kp_iv (ok : yOk Y) {s : Nat} (h1 : s < 6) (k1 : kp Y s) : kp Y (ivp s) := by
  intro q hq
  obtain ⟨i6, t, _⟩ := sp_iv s h1
  have l3 : spt (ivp s) q < 3 := ((sp_iv (ivp s) i6).2.1 q hq).1
  have e := (t q hq).2.2
  constructor
  · intro hv
    by_cases c : spt (ivp s) q < yV Y
    · have := (k1 _ l3).1 c
      rw [e] at this
      exact ⟨c, this.2.symm⟩
    · have := (k1 _ l3).2 (by omega)
      rw [e] at this
      omega
  · intro hv
    have a := (k1 q hq).2 hv
    have b := (t q hq).2.1
    rw [a] at b
    exact b
theorem y_Gp (ok : yOk Y) : Gp (yF Y) (yK Y) (List.range (yL Y)) (yPP Y) (yG Y) cmp ivp := by
  have v3 := ok.2.2.2.1.2
  have nl := N_le ok
  have z6 : kp Y 0 := by
    intro q hq
    have : spt 0 q = q := by
      have : q = 0 ∨ q = 1 ∨ q = 2 := by omega
      rcases this with rfl | rfl | rfl <;> rfl
    rw [this]
    exact ⟨fun h => ⟨h, rfl⟩, fun _ => rfl⟩
  have comp : ∀ s s', s < 6 → s' < 6 → kp Y s → kp Y s' → ∀ i, yN Y ≤ i → i < yL Y → yG Y s (yG Y s' i) = yS Y (spt s (spt s' (yP Y i))) + (i - yS Y (yP Y i)) := by
    intro s s' h1 h2 k1 k2 i i1 i2
    obtain ⟨a1, a2, a3, a4, a5⟩ := g_in ok k2 i1 i2
    obtain ⟨b1, _⟩ := g_in ok k1 a3 a4
    rw [b1, a2, a1]
    omega
  refine ⟨?_, ?_, ?_, ?_, ?_⟩
  · exact List.Pairwise.sublist List.filter_sublist List.nodup_range
  · exact mem_PP.mpr ⟨by omega, z6⟩
  · intro i
    by_cases c : i < yN Y ∨ yL Y ≤ i
    · exact g_out c
    · obtain ⟨a1, a2, a3⟩ := pt_a ok.2.2.2.1 (i := i) (by omega) (by omega)
      have : spt 0 (yP Y i) = yP Y i := by
        have : yP Y i = 0 ∨ yP Y i = 1 ∨ yP Y i = 2 := by omega
        rcases this with h | h | h <;> rw [h] <;> rfl
      rw [(g_in ok z6 (i := i) (by omega) (by omega)).1, this]
      omega
  · intro s hs
    obtain ⟨s6, ks⟩ := mem_PP.mp hs
    have ki := kp_iv ok s6 ks
    obtain ⟨i6, t, _⟩ := sp_iv s s6
    refine ⟨mem_PP.mpr ⟨i6, ki⟩, fun i => ?_⟩
    by_cases c : i < yN Y ∨ yL Y ≤ i
    · rw [g_out (s := s) c, g_out (s := ivp s) c, g_out (s := s) c]
      have fo : yF Y i = i := f_out c
      rw [fo, g_out c]
      exact ⟨rfl, rfl, rfl, rfl, fun h => h⟩
    · have i1 : yN Y ≤ i := by omega
      have i2 : i < yL Y := by omega
      obtain ⟨a1, a2, a3⟩ := pt_a ok.2.2.2.1 i1 i2
      obtain ⟨c1, c2, c3, c4, c5⟩ := g_in ok ks i1 i2
      obtain ⟨f1, f2, f3, f4, f5, f6⟩ := f_in ok i1 i2
      obtain ⟨_, bu⟩ := (ks (yP Y i) (by omega)).1 a1
      obtain ⟨h1, _⟩ := f_in ok c3 c4
      obtain ⟨d1, d2, _⟩ := g_in ok ks f3 (by omega)
      have off : yG Y s i - yS Y (yP Y (yG Y s i)) = i - yS Y (yP Y i) := by
        rw [c2]
        omega
      refine ⟨?_, ?_, ?_, ?_, fun _ => List.mem_range.mpr c4⟩
      · rw [comp _ _ i6 s6 ki ks i i1 i2, (t _ (by omega)).2.1]
        omega
      · rw [comp _ _ s6 i6 ks ki i i1 i2, (t _ (by omega)).2.2]
        omega
      · rw [h1, off, c2, d1, f2, bu, f1]
        omega
      · rw [k_in c3 c4, k_in i1 i2, off, c2, bu]
  · intro s s' hs hs'
    obtain ⟨s6, ks⟩ := mem_PP.mp hs
    obtain ⟨s6', ks'⟩ := mem_PP.mp hs'
    have kc := kp_cm ok s6 s6' ks ks'
    obtain ⟨c6, e⟩ := sp_cm s s6 s' s6'
    obtain ⟨_, _, u⟩ := sp_iv s s6
    refine ⟨mem_PP.mpr ⟨c6, kc⟩, (u s' s6').1, (u s' s6').2, fun i => ?_⟩
    by_cases c : i < yN Y ∨ yL Y ≤ i
    · rw [g_out (s := s') c, g_out c, g_out c]
    · have i1 : yN Y ≤ i := by omega
      have i2 : i < yL Y := by omega
      obtain ⟨a1, a2, a3⟩ := pt_a ok.2.2.2.1 i1 i2
      rw [comp _ _ s6 s6' ks ks' i i1 i2, (g_in ok kc i1 i2).1, e _ (by omega)]
def gns (Y : Ly) : List Nat := [1, 2].filter (kpB Y)
theorem mem_gns {Y : Ly} {s : Nat} : s ∈ gns Y ↔ (s = 1 ∨ s = 2) ∧ kp Y s := by
  unfold gns
  rw [List.mem_filter, kpB_iff]
  simp
theorem y_Gen (ok : yOk Y) : Gen (yPP Y) (gns Y) cmp := by
  have v3 := ok.2.2.2.1.2
  have asc := ok.2.2.2.2.2.1
  constructor
  · intro s hs
    obtain ⟨h1, h2⟩ := mem_gns.mp hs
    exact mem_PP.mpr ⟨by omega, h2⟩
  · intro D d0 step s hs
    have z0 : (0 : Nat) ∈ yPP Y := (y_Gp ok).2.1
    obtain ⟨s6, ks⟩ := mem_PP.mp hs
    have u : 3 ≤ s → yV Y = 3 ∧ yU Y 1 = yU Y 0 ∧ yU Y 2 = yU Y 0 := by
      intro h3
      have k0 := ks 0 (by omega)
      have k1 := ks 1 (by omega)
      have k2 := ks 2 (by omega)
      have vv : yV Y = 1 ∨ yV Y = 2 ∨ yV Y = 3 := by have := ok.2.2.2.1.1; omega
      have a1 : 1 < yV Y → yU Y 0 ≤ yU Y 1 := asc 0
      have a2 : 2 < yV Y → yU Y 1 ≤ yU Y 2 := asc 1
      have ss : s = 3 ∨ s = 4 ∨ s = 5 := by omega
      rcases ss with rfl | rfl | rfl <;> simp only [spt, spT, List.getD_cons_succ, List.getD_cons_zero, Nat.reduceMul, Nat.reduceAdd] at k0 k1 k2 <;> omega
    have k1 : 3 ≤ s → (1 ∈ gns Y ∧ 2 ∈ gns Y) := by
      intro h3
      obtain ⟨v, e1, e2⟩ := u h3
      refine ⟨mem_gns.mpr ⟨Or.inl rfl, ?_⟩, mem_gns.mpr ⟨Or.inr rfl, ?_⟩⟩
      · intro q hq
        have qq : q = 0 ∨ q = 1 ∨ q = 2 := by omega
        rcases qq with rfl | rfl | rfl
        · exact ⟨fun _ => ⟨by rw [v]; decide, e1⟩, fun h => by omega⟩
        · exact ⟨fun _ => ⟨by rw [v]; decide, e1.symm⟩, fun h => by omega⟩
        · exact ⟨fun _ => ⟨by rw [v]; decide, rfl⟩, fun h => by omega⟩
      · intro q hq
        have qq : q = 0 ∨ q = 1 ∨ q = 2 := by omega
        rcases qq with rfl | rfl | rfl
        · exact ⟨fun _ => ⟨by rw [v]; decide, rfl⟩, fun h => by omega⟩
        · exact ⟨fun _ => ⟨by rw [v]; decide, e2.trans e1.symm⟩, fun h => by omega⟩
        · exact ⟨fun _ => ⟨by rw [v]; decide, e1.trans e2.symm⟩, fun h => by omega⟩
    have d1 : 1 ∈ gns Y → D 1 := fun h => step 1 0 h z0 d0
    have d2 : 2 ∈ gns Y → D 2 := fun h => step 2 0 h z0 d0
    have m1 : 1 ∈ gns Y → 1 ∈ yPP Y := fun h => mem_PP.mpr ⟨by omega, (mem_gns.mp h).2⟩
    have m2 : 2 ∈ gns Y → 2 ∈ yPP Y := fun h => mem_PP.mpr ⟨by omega, (mem_gns.mp h).2⟩
    have ss : s = 0 ∨ s = 1 ∨ s = 2 ∨ s = 3 ∨ s = 4 ∨ s = 5 := by omega
    rcases ss with rfl | rfl | rfl | rfl | rfl | rfl
    · exact d0
    · exact d1 (mem_gns.mpr ⟨Or.inl rfl, ks⟩)
    · exact d2 (mem_gns.mpr ⟨Or.inr rfl, ks⟩)
    · obtain ⟨g1, g2⟩ := k1 (by omega)
      exact step 1 2 g1 (m2 g2) (d2 g2)
    · obtain ⟨g1, g2⟩ := k1 (by omega)
      exact step 2 1 g2 (m1 g1) (d1 g1)
    · obtain ⟨g1, g2⟩ := k1 (by omega)
      have d4 : D 4 := step 2 1 g2 (m1 g1) (d1 g1)
      exact step 1 4 g1 (mem_PP.mpr ⟨by omega, kp_cm ok (by omega) (by omega) (mem_gns.mp g2).2 (mem_gns.mp g1).2⟩) d4
end B9b
