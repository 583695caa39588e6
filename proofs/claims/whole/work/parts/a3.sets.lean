/-! THE REFERENCE: which nodes hang together. -/
def sgm (ν : Nat → Nat) : Nat → Nat
  | 0 => 0
  | m + 1 => sgm ν m + ν m
theorem sgm_out (ν : Nat → Nat) (k v : Nat) : ∀ m, m ≤ k → sgm (up1 ν k v) m = sgm ν m
  | 0, _ => rfl
  | m + 1, h => by rw [sgm, sgm, sgm_out ν k v m (by omega), up1_ne _ _ (by omega)]
theorem sgm_up (ν : Nat → Nat) (k v : Nat) : ∀ m, k < m → sgm (up1 ν k v) m + ν k = sgm ν m + v
  | 0, h => by omega
  | m + 1, h => by
    rw [sgm, sgm]
    by_cases c : k = m
    · subst c
      rw [sgm_out ν k v k (by omega), up1_self]
      omega
    · have := sgm_up ν k v m (by omega)
      rw [up1_ne _ _ (by omega)]
      omega
theorem ite_ltN {α : Type} {a b : Nat} (ha : a < 2147483648) (hb : b < 2147483648) (x y : α) : (if I (a : Int) < I (b : Int) then x else y) = if a < b then x else y := by
  by_cases c : a < b
  · rw [if_pos c, if_pos (by rw [I_ltN ha hb]; exact c)]
  · rw [if_neg c, if_neg (by rw [I_ltN ha hb]; exact c)]
theorem ite_leN {α : Type} {a b : Nat} (ha : a < 2147483648) (hb : b < 2147483648) (x y : α) : (if I (a : Int) ≤ I (b : Int) then x else y) = if a ≤ b then x else y := by
  by_cases c : a ≤ b
  · rw [if_pos c, if_pos (by rw [I_leN ha hb]; exact c)]
  · rw [if_neg c, if_neg (by rw [I_leN ha hb]; exact c)]
theorem ite_eqN {α : Type} {a b : Nat} (ha : a < 2147483648) (hb : b < 2147483648) (x y : α) : (if I (a : Int) = I (b : Int) then x else y) = if a = b then x else y := by
  by_cases c : a = b
  · rw [if_pos c, if_pos (by rw [I_eqN ha hb]; exact c)]
  · rw [if_neg c, if_neg (by rw [I_eqN ha hb]; exact c)]
/-- the join of the leg x stays -/
def kpS (p1 : Int32) (ρ : Nat → Nat) (x : Nat) : Prop := ¬ I (x : Int) = p1 ∧ ¬ I (ρ x : Int) = p1
/-- nodes are told by one that they hang together with -/
def ndI (Y : Ly) (ρ : Nat → Nat) (p1 : Int32) (ν : Nat → Nat) : Prop := (∀ k, k < yN Y + yV Y → ν k ≤ k) ∧ ∀ h : Nat → Nat, (∀ x, x < yL Y → kpS p1 ρ x → h (yD Y x) = h (yD Y (ρ x))) → ∀ k, k < yN Y + yV Y → h (ν k) = h k
def ndE (Y : Ly) (ρ : Nat → Nat) (p1 : Int32) (ν : Nat → Nat) (m : Nat) : Prop := ∀ x, x < m → kpS p1 ρ x → ν (yD Y x) = ν (yD Y (ρ x))
def ndC (S : St) (Y : Ly) (ν : Nat → Nat) : Prop := ∀ k, k < yN Y + yV Y → sA S 136 k = I (ν k)
section A3a
variable {sh : List Sh} {f : Nat} {S : St} {Y : Ly} {ρ : Nat → Nat} {p1 : Int32}
theorem yD_lt (ok : yOk Y) {x : Nat} (hx : x < yL Y) : yD Y x < yN Y + yV Y := by
  unfold yD
  by_cases c : x < yN Y
  · rw [if_pos c]; omega
  · rw [if_neg c]
    have := pt_a ok.2.2.2.1 (i := x) (by omega) hx
    omega
theorem r_min {a b : Nat} (ha : a < 1000) (hb : b < 1000) : F_J9_min_7cf53 sh f S (I a) (I b) = some (I ((min a b : Nat) : Int)) := by
  unfold F_J9_min_7cf53
  rw [ite_ltN (by omega) (by omega)]
  by_cases c : b < a
  · rw [if_pos c, Nat.min_eq_right (by omega)]
  · rw [if_neg c, Nat.min_eq_left (by omega)]
theorem ndI_up (ok : yOk Y) {ν : Nat → Nat} (h : ndI Y ρ p1 ν) {x : Nat} (hx : x < yL Y) (hr : ρ x < yL Y) (kx : kpS p1 ρ x) : ndI Y ρ p1 (up1 (up1 ν (yD Y x) (min (ν (yD Y x)) (ν (yD Y (ρ x))))) (yD Y (ρ x)) (min (ν (yD Y x)) (ν (yD Y (ρ x))))) := by
  have a1 := yD_lt ok hx
  have a2 := yD_lt ok hr
  obtain ⟨h1, h2⟩ := h
  constructor
  · intro k hk
    have b1 := h1 _ a1
    have b2 := h1 _ a2
    have b3 := h1 k hk
    rw [up1_if, up1_if]
    by_cases c : k = yD Y (ρ x)
    · rw [if_pos c, c]; omega
    · rw [if_neg c]
      by_cases d : k = yD Y x
      · rw [if_pos d, d]; omega
      · rw [if_neg d]; exact b3
  · intro g hg k hk
    have b1 := h2 g hg _ a1
    have b2 := h2 g hg _ a2
    have b3 := hg x hx kx
    have m : g (min (ν (yD Y x)) (ν (yD Y (ρ x)))) = g (yD Y x) := by
      rcases Nat.le_total (ν (yD Y x)) (ν (yD Y (ρ x))) with q | q
      · rw [Nat.min_eq_left q, b1]
      · rw [Nat.min_eq_right q, b2, b3]
    rw [up1_if, up1_if]
    by_cases c : k = yD Y (ρ x)
    · rw [if_pos c, c, m, b3]
    · rw [if_neg c]
      by_cases d : k = yD Y x
      · rw [if_pos d, d, m]
      · rw [if_neg d]; exact h2 g hg k hk
theorem r_sets33 (hf : 1000 ≤ f) (ok : yOk Y) (rl : rlC S Y) (pa : ∀ i, i < yL Y → sA S 134 i = I (ρ i) ∧ ρ i < yL Y) (ν0 : Nat → Nat) (k25 : St → Int32 → Option (Int32 × St)) : ∀ (d i nf : Nat) (T : St) (ν : Nat → Nat) (l2 : Int32), i + d = yL Y → d < nf → (∀ x, x ≠ 136 → Sm S T x) → ndC T Y ν → ndI Y ρ p1 ν → (l2 = 0 ∧ ν = ν0 ∧ ndE Y ρ p1 ν i ∨ l2 = 1 ∧ sgm ν (yN Y + yV Y) < sgm ν0 (yN Y + yV Y)) → ∃ T' ν' l2', F_X12_sets_L33 sh f 94 p1 k25 nf T l2 (I i) = k25 T' l2' ∧ (∀ x, x ≠ 136 → Sm S T' x) ∧ ndC T' Y ν' ∧ ndI Y ρ p1 ν' ∧ (l2' = 0 ∧ ν' = ν0 ∧ ndE Y ρ p1 ν' (yL Y) ∨ l2' = 1 ∧ sgm ν' (yN Y + yV Y) < sgm ν0 (yN Y + yV Y)) := by
  have L12 := ok.2.2.2.2.2.2.1
  have n6 := ok.2.1
  have v3 := ok.2.2.2.1
  intro d
  induction d with
  | zero =>
    intro i nf T ν l2 h1 h2 fr nc ni fl
    obtain ⟨nf, rfl⟩ : ∃ e, nf = e + 1 := ⟨nf - 1, by omega⟩
    have : i = yL Y := by omega
    subst this
    rw [F_X12_sets_L33, (fr 94 (by omega)).I, rl.1, if_pos (by rw [I_leN (by omega) (by omega)]; omega)]
    exact ⟨T, ν, l2, rfl, fr, nc, ni, fl⟩
  | succ d ih =>
    intro i nf T ν l2 h1 h2 fr nc ni fl
    obtain ⟨nf, rfl⟩ : ∃ e, nf = e + 1 := ⟨nf - 1, by omega⟩
    have hi : i < yL Y := by omega
    obtain ⟨p2, p3⟩ := pa i hi
    have icl : (I (i : Int)).toNatClampNeg = i := I_clN (by omega)
    have rcl : (I (ρ i : Int)).toNatClampNeg = ρ i := I_clN (by omega)
    have D1 := yD_lt ok hi
    have D2 := yD_lt ok p3
    have dcl : (I (yD Y i : Int)).toNatClampNeg = yD Y i := I_clN (by omega)
    have ecl : (I (yD Y (ρ i) : Int)).toNatClampNeg = yD Y (ρ i) := I_clN (by omega)
    have t134 : sA T (94 + 40) i = I (ρ i) := ((fr 134 (by omega)).A i).trans p2
    have t133 : sA T (94 + 39) i = I (yD Y i) := ((fr 133 (by omega)).A i).trans (rl.2.2.1 i hi).2
    have t133' : sA T (94 + 39) (ρ i) = I (yD Y (ρ i)) := ((fr 133 (by omega)).A (ρ i)).trans (rl.2.2.1 _ p3).2
    have t136 : sA T (94 + 42) (yD Y i) = I (ν (yD Y i)) := nc _ D1
    have t136' : sA T (94 + 42) (yD Y (ρ i)) = I (ν (yD Y (ρ i))) := nc _ D2
    have b1 := ni.1 _ D1
    have b2 := ni.1 _ D2
    have nb : ¬ (I (i : Int) < 0 ∨ 12 ≤ i) := I_bnd (by omega) (by omega)
    have nb2 : ¬ (I (ρ i : Int) < 0 ∨ 12 ≤ ρ i) := I_bnd (by omega) (by omega)
    have nb3 : ¬ (I (yD Y i : Int) < 0 ∨ 9 ≤ yD Y i) := I_bnd (by omega) (by omega)
    have nb4 : ¬ (I (yD Y (ρ i) : Int) < 0 ∨ 9 ≤ yD Y (ρ i)) := I_bnd (by omega) (by omega)
    rw [F_X12_sets_L33, (fr 94 (by omega)).I, rl.1, if_neg (by rw [I_leN (by omega) (by omega)]; omega)]
    by_cases c1 : I (i : Int) = p1
    · rw [if_pos c1]
      simp only [bnd, I_suc]
      refine ih (i + 1) nf T ν l2 (by omega) (by omega) fr nc ni ?_
      rcases fl with ⟨a, b, c⟩ | q
      · refine Or.inl ⟨a, b, fun x hx kx => ?_⟩
        by_cases e : x = i
        · rw [e] at kx
          exact absurd c1 kx.1
        · exact c x (by omega) kx
      · exact Or.inr q
    · rw [if_neg c1, icl, if_neg nb, t134]
      by_cases c2 : I (ρ i : Int) = p1
      · rw [if_pos c2]
        simp only [bnd, I_suc]
        refine ih (i + 1) nf T ν l2 (by omega) (by omega) fr nc ni ?_
        rcases fl with ⟨a, b, c⟩ | q
        · refine Or.inl ⟨a, b, fun x hx kx => ?_⟩
          by_cases e : x = i
          · rw [e] at kx
            exact absurd c2 kx.2
          · exact c x (by omega) kx
        · exact Or.inr q
      · have kx : kpS p1 ρ i := ⟨c1, c2⟩
        rw [if_neg c2, if_neg nb, t133, dcl, if_neg nb3, t136]
        simp only [bnd]
        rw [if_neg nb, rcl, if_neg nb2, t133', ecl, if_neg nb4, t136', ite_eqN (by omega) (by omega)]
        by_cases c3 : ν (yD Y i) = ν (yD Y (ρ i))
        · rw [if_pos c3, I_suc]
          refine ih (i + 1) nf T ν l2 (by omega) (by omega) fr nc ni ?_
          rcases fl with ⟨a, b, c⟩ | q
          · refine Or.inl ⟨a, b, fun x hx kx => ?_⟩
            by_cases e : x = i
            · rw [e]; exact c3
            · exact c x (by omega) kx
          · exact Or.inr q
        · rw [if_neg c3, if_neg nb, r_min (by omega) (by omega), Option.bind_some, if_neg nb3]
          generalize hm : min (ν (yD Y i)) (ν (yD Y (ρ i))) = mm
          have m9 : mm < 9 := by omega
          have r1 : sA (uA T (94 + 42) (yD Y i) (I mm)) (94 + 40) i = I (ρ i) := by
            rw [sA_row _ _ _ (by omega)]; exact t134
          have r2 : sA (uA T (94 + 42) (yD Y i) (I mm)) (94 + 39) (ρ i) = I (yD Y (ρ i)) := by
            rw [sA_row _ _ _ (by omega)]; exact t133'
          rw [if_neg nb, r1, rcl, if_neg nb2, r_min (by omega) (by omega), hm, Option.bind_some, r2, ecl, if_neg nb4, I_suc]
          refine ih (i + 1) nf _ (up1 (up1 ν (yD Y i) mm) (yD Y (ρ i)) mm) 1 (by omega) (by omega) (fun x hx => (fr x hx).trans (by repeat' (first | exact Sm.rfl | (refine Sm.uI ?_ (by omega)) | (refine Sm.uA ?_ (by omega)) | (refine Sm.uJ ?_ (by omega)) | (refine Sm.uL ?_ (by omega)) | (refine Sm.uR ?_ (by omega))))) ?_ ?_ ?_
          · intro k hk
            rw [sA_uA, if_pos rfl, up1_if, up1_if]
            by_cases e1 : k = yD Y (ρ i)
            · rw [if_pos e1, if_pos e1]
            · rw [if_neg e1, if_neg e1, sA_uA, if_pos rfl, up1_if]
              by_cases e2 : k = yD Y i
              · rw [if_pos e2, e2, up1_self]
              · rw [if_neg e2, up1_ne _ _ e2]
                exact nc k hk
          · rw [← hm]
            exact ndI_up ok ni hi p3 kx
          · right
            refine ⟨rfl, ?_⟩
            have ne : yD Y (ρ i) ≠ yD Y i := fun e => c3 (by rw [e])
            have s1 := sgm_up ν (yD Y i) mm (yN Y + yV Y) D1
            have s2 := sgm_up (up1 ν (yD Y i) mm) (yD Y (ρ i)) mm (yN Y + yV Y) D2
            rw [up1_ne _ _ ne] at s2
            have le : sgm ν (yN Y + yV Y) ≤ sgm ν0 (yN Y + yV Y) := by
              rcases fl with ⟨_, b, _⟩ | q
              · rw [b]; exact Nat.le_refl _
              · omega
            omega
def cntF (ν : Nat → Nat) (m : Nat) : Nat := (List.range m).countP (fun k => ν k == k)
theorem cntF_s (ν : Nat → Nat) (m : Nat) : cntF ν (m + 1) = cntF ν m + (if ν m = m then 1 else 0) := by
  unfold cntF
  rw [List.range_succ, List.countP_append, List.countP_singleton]
  simp only [beq_iff_eq]
theorem cntF_le (ν : Nat → Nat) (m : Nat) : cntF ν m ≤ m := by
  unfold cntF
  have := List.countP_le_length (p := fun k => ν k == k) (l := List.range m)
  rw [List.length_range] at this
  exact this
theorem r_sets157 {T : St} {ν : Nat → Nat} (hf : 1000 ≤ f) (ok : yOk Y) (t26 : sI T 94 26 = I ((yN Y + yV Y : Nat) : Int)) (nc : ndC T Y ν) (b : ∀ k, k < yN Y + yV Y → ν k ≤ k) : F_X12_sets_L157 sh f 94 p1 f T 0 0 = some (I (cntF ν (yN Y + yV Y)), T) := by
  have n6 := ok.2.1
  have v3 := ok.2.2.2.1
  have lp : ∀ (d i nf : Nat), i + d = yN Y + yV Y → d < nf → F_X12_sets_L157 sh f 94 p1 nf T (I (cntF ν i)) (I i) = some (I (cntF ν (yN Y + yV Y)), T) := by
    intro d
    induction d with
    | zero =>
      intro i nf h1 h2
      obtain ⟨nf, rfl⟩ : ∃ e, nf = e + 1 := ⟨nf - 1, by omega⟩
      have : i = yN Y + yV Y := by omega
      subst this
      rw [F_X12_sets_L157, t26, if_pos (by rw [I_leN (by omega) (by omega)]; omega)]
    | succ d ih =>
      intro i nf h1 h2
      obtain ⟨nf, rfl⟩ : ∃ e, nf = e + 1 := ⟨nf - 1, by omega⟩
      have icl : (I (i : Int)).toNatClampNeg = i := I_clN (by omega)
      have bb := b i (by omega)
      have t136 : sA T (94 + 42) i = I (ν i) := nc i (by omega)
      rw [F_X12_sets_L157, t26, if_neg (by rw [I_leN (by omega) (by omega)]; omega), icl, if_neg (I_bnd (show i < 9 by omega) (by omega)), t136, ite_eqN (by omega) (by omega)]
      have st := cntF_s ν i
      by_cases c : ν i = i
      · rw [if_pos c]
        rw [if_pos c] at st
        simp only [bnd, I_suc]
        rw [← st]
        exact ih (i + 1) nf (by omega) (by omega)
      · rw [if_neg c]
        have st : cntF ν (i + 1) = cntF ν i := by rw [st, if_neg c]; omega
        simp only [bnd, I_suc]
        rw [show (0 : Int32) = I 0 from rfl, I_add, Int.add_zero, ← st]
        exact ih (i + 1) nf (by omega) (by omega)
  exact lp (yN Y + yV Y) 0 f (by omega) (by omega)
theorem sgm_le (ν : Nat → Nat) : ∀ m, (∀ k, k < m → ν k ≤ k) → sgm ν m ≤ m * m
  | 0, _ => Nat.le_refl _
  | m + 1, h => by
    have a := sgm_le ν m (fun k hk => h k (by omega))
    have b := h m (by omega)
    rw [sgm, Nat.add_mul, Nat.mul_add]
    omega
theorem r_sets (hf : 1000 ≤ f) (ok : yOk Y) (rl : rlC S Y) (pa : ∀ i, i < yL Y → sA S 134 i = I (ρ i) ∧ ρ i < yL Y) : ∃ S' ν, F_X12_sets sh f S 94 p1 = some (I (cntF ν (yN Y + yV Y)), S') ∧ ndC S' Y ν ∧ ndI Y ρ p1 ν ∧ ndE Y ρ p1 ν (yL Y) ∧ ∀ x, x ≠ 136 → Sm S S' x := by
  have n6 := ok.2.1
  have v3 := ok.2.2.2.1
  have out : ∀ (s nf : Nat) (T : St) (ν : Nat → Nat) (l2 : Int32), sgm ν (yN Y + yV Y) ≤ s → s + 2 < nf → (∀ x, x ≠ 136 → Sm S T x) → ndC T Y ν → ndI Y ρ p1 ν → (l2 = 0 ∧ ndE Y ρ p1 ν (yL Y) ∨ l2 = 1) → ∃ S' ν, F_X12_sets_L25 sh f 94 p1 nf T l2 = some (I (cntF ν (yN Y + yV Y)), S') ∧ ndC S' Y ν ∧ ndI Y ρ p1 ν ∧ ndE Y ρ p1 ν (yL Y) ∧ ∀ x, x ≠ 136 → Sm S S' x := by
    intro s
    induction s with
    | zero =>
      intro nf T ν l2 h1 h2 fr nc ni fl
      obtain ⟨nf, rfl⟩ : ∃ e, nf = e + 2 := ⟨nf - 2, by omega⟩
      have t26 : sI T 94 26 = I ((yN Y + yV Y : Nat) : Int) := ((fr 94 (by omega)).I 26).trans rl.2.1
      rcases fl with ⟨rfl, e⟩ | rfl
      · rw [F_X12_sets_L25, if_pos rfl, r_sets157 hf ok t26 nc ni.1]
        exact ⟨T, ν, rfl, nc, ni, e, fr⟩
      · rw [F_X12_sets_L25, if_neg (by decide)]
        obtain ⟨T', ν', l2', e0, fr', nc', ni', q⟩ := r_sets33 (sh := sh) (p1 := p1) hf ok rl pa ν (F_X12_sets_L25 sh f 94 p1 (nf + 1)) (yL Y) 0 f T ν 0 (by omega) (by have := ok.2.2.2.2.2.2.1; omega) fr nc ni (Or.inl ⟨rfl, rfl, fun x hx => by omega⟩)
        have e0' : F_X12_sets_L33 sh f 94 p1 (F_X12_sets_L25 sh f 94 p1 (nf + 1)) f T 0 0 = F_X12_sets_L25 sh f 94 p1 (nf + 1) T' l2' := e0
        rw [e0']
        rcases q with ⟨rfl, _, e⟩ | ⟨_, q⟩
        · have t26' : sI T' 94 26 = I ((yN Y + yV Y : Nat) : Int) := ((fr' 94 (by omega)).I 26).trans rl.2.1
          rw [F_X12_sets_L25, if_pos rfl, r_sets157 hf ok t26' nc' ni'.1]
          exact ⟨T', ν', rfl, nc', ni', e, fr'⟩
        · omega
    | succ s ih =>
      intro nf T ν l2 h1 h2 fr nc ni fl
      obtain ⟨nf, rfl⟩ : ∃ e, nf = e + 2 := ⟨nf - 2, by omega⟩
      have t26 : sI T 94 26 = I ((yN Y + yV Y : Nat) : Int) := ((fr 94 (by omega)).I 26).trans rl.2.1
      rcases fl with ⟨rfl, e⟩ | rfl
      · rw [F_X12_sets_L25, if_pos rfl, r_sets157 hf ok t26 nc ni.1]
        exact ⟨T, ν, rfl, nc, ni, e, fr⟩
      · rw [F_X12_sets_L25, if_neg (by decide)]
        obtain ⟨T', ν', l2', e0, fr', nc', ni', q⟩ := r_sets33 (sh := sh) (p1 := p1) hf ok rl pa ν (F_X12_sets_L25 sh f 94 p1 (nf + 1)) (yL Y) 0 f T ν 0 (by omega) (by have := ok.2.2.2.2.2.2.1; omega) fr nc ni (Or.inl ⟨rfl, rfl, fun x hx => by omega⟩)
        have e0' : F_X12_sets_L33 sh f 94 p1 (F_X12_sets_L25 sh f 94 p1 (nf + 1)) f T 0 0 = F_X12_sets_L25 sh f 94 p1 (nf + 1) T' l2' := e0
        rw [e0']
        rcases q with ⟨rfl, _, e⟩ | ⟨rfl, q⟩
        · have t26' : sI T' 94 26 = I ((yN Y + yV Y : Nat) : Int) := ((fr' 94 (by omega)).I 26).trans rl.2.1
          rw [F_X12_sets_L25, if_pos rfl, r_sets157 hf ok t26' nc' ni'.1]
          exact ⟨T', ν', rfl, nc', ni', e, fr'⟩
        · exact ih (nf + 1) T' ν' 1 (by omega) (by omega) fr' nc' ni' (Or.inr rfl)
  have ini : ∀ (d i nf : Nat) (T : St), i + d = yN Y + yV Y → d < nf → (∀ x, x ≠ 136 → Sm S T x) → (∀ k, k < i → sA T 136 k = I (k : Int)) → ∃ S' ν, F_X12_sets_L2 sh f 94 p1 nf T (I i) = some (I (cntF ν (yN Y + yV Y)), S') ∧ ndC S' Y ν ∧ ndI Y ρ p1 ν ∧ ndE Y ρ p1 ν (yL Y) ∧ ∀ x, x ≠ 136 → Sm S S' x := by
    intro d
    induction d with
    | zero =>
      intro i nf T h1 h2 fr a
      obtain ⟨nf, rfl⟩ : ∃ e, nf = e + 1 := ⟨nf - 1, by omega⟩
      have : i = yN Y + yV Y := by omega
      subst this
      rw [F_X12_sets_L2, (fr 94 (by omega)).I, rl.2.1, if_pos (by rw [I_leN (by omega) (by omega)]; omega)]
      have sb := sgm_le (fun k => k) (yN Y + yV Y) (fun k _ => Nat.le_refl _)
      have q9 : (yN Y + yV Y) * (yN Y + yV Y) ≤ 9 * 9 := Nat.mul_le_mul (by omega) (by omega)
      exact out 81 f T (fun k => k) 1 (by omega) (by omega) fr a ⟨fun k _ => Nat.le_refl _, fun h _ k _ => rfl⟩ (Or.inr rfl)
    | succ d ih =>
      intro i nf T h1 h2 fr a
      obtain ⟨nf, rfl⟩ : ∃ e, nf = e + 1 := ⟨nf - 1, by omega⟩
      have icl : (I (i : Int)).toNatClampNeg = i := I_clN (by omega)
      rw [F_X12_sets_L2, (fr 94 (by omega)).I, rl.2.1, if_neg (by rw [I_leN (by omega) (by omega)]; omega), icl, if_neg (I_bnd (show i < 9 by omega) (by omega))]
      simp only [bnd, I_suc, Nat.reduceAdd]
      refine ih (i + 1) nf _ (by omega) (by omega) (fun x hx => (fr x hx).trans (by repeat' (first | exact Sm.rfl | (refine Sm.uI ?_ (by omega)) | (refine Sm.uA ?_ (by omega)) | (refine Sm.uJ ?_ (by omega)) | (refine Sm.uL ?_ (by omega)) | (refine Sm.uR ?_ (by omega))))) (fun k hk => ?_)
      rw [sA_uA, if_pos rfl, up1_if]
      by_cases c : k = i
      · rw [if_pos c, c]
      · rw [if_neg c]; exact a k (by omega)
  unfold F_X12_sets
  exact ini (yN Y + yV Y) 0 f S (by omega) (by omega) (fun x _ => Sm.rfl) (fun k hk => by omega)
end A3a
