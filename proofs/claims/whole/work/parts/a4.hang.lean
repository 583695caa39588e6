/-! WHAT HANGS TOGETHER, by links of points. -/
def lkb (W p q : Nat) : Bool := decide (p ≠ q) && W.testBit (p + q - 1)
theorem rc_clo : ∀ W : Fin 8, ∀ r : Fin 8, ∀ p : Fin 3, ∀ q : Fin 3, lkb W.val p.val q.val = true → (rcN W.val r.val).testBit p.val = (rcN W.val r.val).testBit q.val := by decide +kernel
theorem rc_in : ∀ W : Fin 8, ∀ p : Fin 3, (rcN W.val (2 ^ p.val)).testBit p.val = true := by decide +kernel
theorem rc_way : ∀ W : Fin 8, ∀ a : Fin 3, ∀ p : Fin 3, (rcN W.val (2 ^ a.val)).testBit p.val = true → p = a ∨ lkb W.val a.val p.val = true ∨ ∃ q : Fin 3, lkb W.val a.val q.val = true ∧ lkb W.val q.val p.val = true := by decide +kernel
theorem rc_pop : ∀ V : Fin 4, ∀ W : Fin 8, ∀ a : Fin 3, a.val < V.val → (∀ p : Fin 3, ∀ q : Fin 3, lkb W.val p.val q.val = true → p.val < V.val ∧ q.val < V.val) → ((∀ p : Fin 3, p.val < V.val → (rcN W.val (2 ^ a.val)).testBit p.val = true) ↔ V.val ≤ popN 12 W.val + 1) := by decide +kernel
theorem and_tb : ∀ r : Fin 8, ∀ p : Fin 3, (r.val &&& 2 ^ p.val = 0 ↔ r.val.testBit p.val = false) ∧ (2 ^ p.val &&& r.val = 0 ↔ r.val.testBit p.val = false) := by decide +kernel
theorem sum_pq {a b p q : Nat} (ha : a < 3) (hb : b < 3) (hp : p < 3) (hq : q < 3) (n1 : a ≠ b) (n2 : p ≠ q) (e : a + b - 1 = p + q - 1) : a = p ∧ b = q ∨ a = q ∧ b = p := by omega
section A4a
variable {Y : Ly} {ρ ν : Nat → Nat} {p1 : Int32} {W : Nat}
/-- W tells the links that stay -/
def lkI (Y : Ly) (ρ : Nat → Nat) (p1 : Int32) (W : Nat) : Prop := W < 8 ∧ ∀ k, k < 3 → (W.testBit k = true ↔ ∃ x, x < yL Y ∧ kpS p1 ρ x ∧ lkN Y x (ρ x) = 2 ^ k)
theorem lkN_in {x k : Nat} (e : lkN Y x (ρ x) = 2 ^ k) : yN Y ≤ x ∧ yN Y ≤ ρ x ∧ yP Y x ≠ yP Y (ρ x) ∧ yP Y x + yP Y (ρ x) - 1 = k := by
  unfold lkN at e
  by_cases c : x < yN Y ∨ ρ x < yN Y ∨ yP Y x = yP Y (ρ x)
  · rw [if_pos c] at e
    have := Nat.two_pow_pos k
    omega
  · rw [if_neg c] at e
    have := p2_inj e
    refine ⟨by omega, by omega, fun h => c (Or.inr (Or.inr h)), this⟩
theorem lkN_of {x : Nat} (h1 : yN Y ≤ x) (h2 : yN Y ≤ ρ x) (h3 : yP Y x ≠ yP Y (ρ x)) : lkN Y x (ρ x) = 2 ^ (yP Y x + yP Y (ρ x) - 1) := by
  unfold lkN
  rw [if_neg (by omega)]
theorem yD_pt {x : Nat} (h : yN Y ≤ x) : yD Y x = yN Y + yP Y x := by
  unfold yD
  rw [if_neg (by omega)]
theorem yD_en {x : Nat} (h : x < yN Y) : yD Y x = x := by
  unfold yD
  rw [if_pos h]
theorem nd_idem (ni : ndI Y ρ p1 ν) (ne : ndE Y ρ p1 ν (yL Y)) {k : Nat} (hk : k < yN Y + yV Y) : ν k < yN Y + yV Y ∧ ν (ν k) = ν k := by
  have := ni.1 k hk
  exact ⟨by omega, ni.2 ν ne k hk⟩
theorem nd_link (ne : ndE Y ρ p1 ν (yL Y)) (lk : lkI Y ρ p1 W) {p q : Nat} (hp : p < 3) (hq : q < 3) (h : lkb W p q = true) : ν (yN Y + p) = ν (yN Y + q) := by
  unfold lkb at h
  rw [Bool.and_eq_true, decide_eq_true_eq] at h
  obtain ⟨x, hx, kx, e⟩ := (lk.2 (p + q - 1) (by omega)).mp h.2
  obtain ⟨a1, a2, a3, a4⟩ := lkN_in e
  have m := ne x hx kx
  rw [yD_pt a1, yD_pt a2] at m
  rcases sum_pq (yP_lt Y x) (yP_lt Y (ρ x)) hp hq a3 h.1 a4 with ⟨e1, e2⟩ | ⟨e1, e2⟩
  · rw [e1, e2] at m; exact m
  · rw [e1, e2] at m; exact m.symm
theorem nd_end (ne : ndE Y ρ p1 ν (yL Y)) (nl : yN Y ≤ yL Y) (no : ∀ i, i < yN Y → yN Y ≤ ρ i) (ke : ∀ i, i < yN Y → kpS p1 ρ i) {i : Nat} (hi : i < yN Y) : ν i = ν (yN Y + yP Y (ρ i)) := by
  have m := ne i (by omega) (ke i hi)
  rw [yD_en hi, yD_pt (no i hi)] at m
  exact m
theorem pB_pt {x : Nat} (h : yN Y ≤ x) : pB Y x = 2 ^ yP Y x := by
  unfold pB
  rw [if_neg (by omega)]
/-- what is reached by links is what hangs together with the first end -/
theorem nd_rch (ok : yOk Y) (w : yRw Y ρ) (ni : ndI Y ρ p1 ν) (ne : ndE Y ρ p1 ν (yL Y)) (no : ∀ i, i < yN Y → yN Y ≤ ρ i) (ke : ∀ i, i < yN Y → kpS p1 ρ i) (lk : lkI Y ρ p1 W) {p : Nat} (hp : p < yV Y) : ν (yN Y + p) = ν 0 ↔ (rcN W (pB Y (ρ 0))).testBit p = true := by
  have nl := N_le ok
  have n1 := ok.2.1.1
  have v3 := ok.2.2.2.1.2
  have W8 := lk.1
  have p0 := yP_lt Y (ρ 0)
  have e0 := nd_end ne nl no ke (i := 0) (by omega)
  rw [pB_pt (no 0 (by omega))]
  constructor
  · intro e
    generalize hR : rcN W (2 ^ yP Y (ρ 0)) = R
    have clo : ∀ p q, p < 3 → q < 3 → lkb W p q = true → R.testBit p = R.testBit q := by
      intro p q hp hq h
      rw [← hR]
      have := rc_clo ⟨W, W8⟩ ⟨2 ^ yP Y (ρ 0), by
        have : yP Y (ρ 0) = 0 ∨ yP Y (ρ 0) = 1 ∨ yP Y (ρ 0) = 2 := by omega
        rcases this with h | h | h <;> rw [h] <;> decide⟩ ⟨p, hp⟩ ⟨q, hq⟩ h
      exact this
    have h := ni.2 (fun k => if k < yN Y then (if R.testBit (yP Y (ρ k)) = true then 1 else 0) else (if R.testBit (k - yN Y) = true then 1 else 0)) (by
      intro x hx kx
      obtain ⟨r1, r2, r3, _⟩ := yRw_lt w hx
      by_cases c : x < yN Y
      · have := no x c
        rw [yD_en c, yD_pt this]
        simp only [c, if_true, show ¬ yN Y + yP Y (ρ x) < yN Y by omega, if_false, show yN Y + yP Y (ρ x) - yN Y = yP Y (ρ x) by omega]
      · by_cases d : ρ x < yN Y
        · have := no _ d
          rw [r2] at this
          rw [yD_en d, yD_pt this]
          simp only [d, if_true, show ¬ yN Y + yP Y x < yN Y by omega, if_false, show yN Y + yP Y x - yN Y = yP Y x by omega, r2]
        · rw [yD_pt (by omega), yD_pt (by omega)]
          simp only [show ¬ yN Y + yP Y x < yN Y by omega, show ¬ yN Y + yP Y (ρ x) < yN Y by omega, if_false, show yN Y + yP Y x - yN Y = yP Y x by omega, show yN Y + yP Y (ρ x) - yN Y = yP Y (ρ x) by omega]
          by_cases q : yP Y x = yP Y (ρ x)
          · rw [q]
          · have a1 := yP_lt Y x
            have a2 := yP_lt Y (ρ x)
            have b := (lk.2 (yP Y x + yP Y (ρ x) - 1) (by omega)).mpr ⟨x, hx, kx, lkN_of (by omega) (by omega) q⟩
            rw [clo _ _ a1 a2 (by unfold lkb; rw [b, Bool.and_true, decide_eq_true_eq]; exact q)])
    have h1 := h (yN Y + p) (by omega)
    have h2 := h 0 (by omega)
    rw [e, h2] at h1
    simp only [show (0 : Nat) < yN Y by omega, if_true, show ¬ yN Y + p < yN Y by omega, if_false, show yN Y + p - yN Y = p by omega] at h1
    have b0 : R.testBit (yP Y (ρ 0)) = true := by
      rw [← hR]
      exact rc_in ⟨W, W8⟩ ⟨_, p0⟩
    rw [b0] at h1
    by_cases c : R.testBit p = true
    · exact c
    · rw [if_pos rfl, if_neg c] at h1
      omega
  · intro h
    rcases rc_way ⟨W, W8⟩ ⟨_, p0⟩ ⟨p, by omega⟩ h with e | e | ⟨q, e1, e2⟩
    · have : p = yP Y (ρ 0) := congrArg Fin.val e
      rw [this, ← e0]
    · rw [e0]
      exact (nd_link ne lk p0 (by omega) e).symm
    · rw [e0, nd_link ne lk p0 q.isLt e1]
      exact (nd_link ne lk q.isLt (by omega) e2).symm
theorem cnt_mono (ν : Nat → Nat) (m : Nat) : ∀ d, cntF ν m ≤ cntF ν (m + d)
  | 0 => Nat.le_refl _
  | d + 1 => by
    rw [show m + (d + 1) = m + d + 1 by omega, cntF_s]
    have := cnt_mono ν m d
    omega
theorem cnt_one {M : Nat} (h0 : ν 0 = 0) (id : ∀ k, k < M → ν k < M ∧ ν (ν k) = ν k) : cntF ν M ≤ 1 ↔ ∀ k, k < M → ν k = 0 := by
  have c1 : cntF ν 1 = 1 := by
    rw [cntF_s, if_pos h0]
    rfl
  constructor
  · intro h k hk
    obtain ⟨a, b⟩ := id k hk
    by_cases c : ν k = 0
    · exact c
    · exfalso
      have s := cntF_s ν (ν k)
      rw [if_pos b] at s
      have m1 := cnt_mono ν 1 (ν k - 1)
      rw [show 1 + (ν k - 1) = ν k by omega] at m1
      have m2 := cnt_mono ν (ν k + 1) (M - (ν k + 1))
      rw [show ν k + 1 + (M - (ν k + 1)) = M by omega] at m2
      omega
  · intro h
    have : ∀ d, d + 1 ≤ M → cntF ν (d + 1) = 1 := by
      intro d
      induction d with
      | zero => intro _; exact c1
      | succ d ih =>
        intro hd
        rw [cntF_s, ih (by omega), if_neg (by rw [h (d + 1) (by omega)]; omega)]
    by_cases c : M = 0
    · subst c
      exact Nat.le_trans (cntF_le ν 0) (by omega)
    · have := this (M - 1) (by omega)
      rw [show M - 1 + 1 = M by omega] at this
      omega
/-- in one piece, if the links that stay are enough -/
theorem nd_one (ok : yOk Y) (w : yRw Y ρ) (ni : ndI Y ρ p1 ν) (ne : ndE Y ρ p1 ν (yL Y)) (no : ∀ i, i < yN Y → yN Y ≤ ρ i) (ke : ∀ i, i < yN Y → kpS p1 ρ i) (lk : lkI Y ρ p1 W) : cntF ν (yN Y + yV Y) ≤ 1 ↔ yV Y ≤ popN 12 W + 1 := by
  have nl := N_le ok
  have n1 := ok.2.1.1
  have v3 := ok.2.2.2.1
  have W8 := lk.1
  have p0 := yP_lt Y (ρ 0)
  have z : ν 0 = 0 := by
    have := ni.1 0 (by omega)
    omega
  have r0 := yRw_lt w (show 0 < yL Y by omega)
  have pv := (pt_a v3 (no 0 (by omega)) r0.1).1
  have rc := rc_pop ⟨yV Y, by omega⟩ ⟨W, W8⟩ ⟨_, p0⟩ pv (by
    intro p q h
    unfold lkb at h
    rw [Bool.and_eq_true, decide_eq_true_eq] at h
    have hp := p.isLt
    have hq := q.isLt
    obtain ⟨x, hx, kx, e⟩ := (lk.2 (p.val + q.val - 1) (by omega)).mp h.2
    obtain ⟨a1, a2, a3, a4⟩ := lkN_in e
    have b1 := (pt_a v3 a1 hx).1
    have b2 := (pt_a v3 a2 (yRw_lt w hx).1).1
    rcases sum_pq (yP_lt Y x) (yP_lt Y (ρ x)) hp hq a3 h.1 a4 with ⟨e1, e2⟩ | ⟨e1, e2⟩ <;> rw [e1] at b1 <;> rw [e2] at b2
    · exact ⟨b1, b2⟩
    · exact ⟨b2, b1⟩)
  rw [cnt_one z (fun k hk => nd_idem ni ne hk), ← rc]
  constructor
  · intro h p hp
    have hp : p.val < yV Y := hp
    have := (nd_rch ok w ni ne no ke lk hp).mp (by rw [h _ (by omega), z])
    rw [pB_pt (no 0 (by omega))] at this
    exact this
  · intro h k hk
    have P : ∀ p, p < yV Y → ν (yN Y + p) = 0 := by
      intro p hp
      rw [(nd_rch ok w ni ne no ke lk hp).mpr (by rw [pB_pt (no 0 (by omega))]; exact h ⟨p, by omega⟩ hp), z]
    by_cases c : k < yN Y
    · rw [nd_end ne nl no ke c]
      exact P _ (pt_a v3 (no k c) (yRw_lt w (by omega)).1).1
    · have := P (k - yN Y) (by omega)
      rw [show yN Y + (k - yN Y) = k by omega] at this
      exact this
end A4a
