/-! A ROW SHOWN by the reference: inner joins, cuts. -/
section AKa
variable {sh : List Sh} {f q p1 : Nat} {Y : Ly} {S : St} {ρ : Nat → Nat}
/-- the row ρ of the layout Y is shown -/
def shC (sh : List Sh) (S : St) (Y : Ly) (ρ : Nat → Nat) (q : Nat) : Prop := rlC S Y ∧ (∀ i, i < yL Y → sA S 134 i = I (ρ i)) ∧ sI S 94 40 = I (yV Y) ∧ sR S 94 5 = some q ∧ ckX9 sh q = true ∧ qOk q ∧ bkR S q (yB Y)
theorem shC_sm {S' : St} (h : shC sh S Y ρ q) (g : ∀ x, x ≠ 136 → Sm S S' x) : shC sh S' Y ρ q := by
  obtain ⟨h1, h2, h3, h4, h5, h6, h7⟩ := h
  refine ⟨rlC_fr (fr_of (by decide) g) h1 (by decide) (by decide) (by decide) (by decide) (by decide), fun i hi => ((g 134 (by decide)).A i).trans (h2 i hi), ((g 94 (by decide)).I 40).trans h3, ((g 94 (by decide)).R 5).trans h4, h5, h6, bkR_fr (fr_of (by decide) g) (by decide) h6 h7⟩
theorem r_shows0 {i : Nat} (hf : 1000 ≤ f) (ok : yOk Y) (w : yRw Y ρ) (h1 : sR S 94 5 = some q) (h2 : ckX9 sh q = true) (h3 : qOk q) (h4 : bkR S q (yB Y)) (h7 : ∀ x, x < yN Y → sA S (p1 + 1) x = I (yE Y x)) (h9 : sI S p1 1 = I (yV Y)) (h10 : sI S p1 2 = I (yN Y)) (h11 : p1 = 111 ∨ p1 = 118 ∨ p1 = 125) (hi : i < 200) (e1 : ∀ p, p < yV Y → sA S (p1 + 3) (3 * i + p) = I (yU Y p)) (e2 : sL S (p1 + 6) i = J (e12 ρ)) : ∃ S', F_X12_shows sh f S 94 p1 (I i) = some S' ∧ rlC S' Y ∧ (∀ i, i < yL Y → sA S' 134 i = I (ρ i)) ∧ fr [25, 26] [132, 133, 134, 135] S S' := by
  have L12 := ok.2.2.2.2.2.2.1
  have v3 := ok.2.2.2.1
  obtain ⟨r, U, u0, u1, u2, u3⟩ := r_lays (sh := sh) (f := f) (Y := Y) (p1 := p1) (p2 := p1 + 3) (n2 := 600) (q := q) (o := 3 * i) (S := S) (by omega) v3 ok.2.2.2.2.1 ok.1 h2 (by unfold qOk at h3; exact ⟨by omega, fun x hx => by omega⟩) (by omega) (by omega) (by omega) (by omega) h9 h10 ok.2.1.2 h7 h1 h4 e1
  have fU : fr [25, 26] [132, 133, 134, 135] S U := ⟨fun j hj => u3.1 j (fun e => hj (by simp [e])) (fun e => hj (by simp [e])), (u3.2.1 94).2, (u3.2.1 94).1, fun x h1 h2 => u3.2.2 x h1 (fun e => h2 (by simp [e])) (fun e => h2 (by simp [e])) (fun e => h2 (by simp [e]))⟩
  obtain ⟨_, rl⟩ := u1 ok.2.2.2.2.2.2
  have e3 : sL U (p1 + 6) i = J (e12 ρ) := ((u3.2.2 (p1 + 6) (by omega) (by omega) (by omega) (by omega)).L i).trans e2
  obtain ⟨T, t0, t1, t2⟩ := r_takes (sh := sh) (f := f) (ρ := ρ) hf L12 U rl.1
  have m3 : (3 : Int32) * I (i : Int) = I ((3 * i : Nat) : Int) := by rw [show (3 : Int32) = I 3 from rfl, I_mul]; rfl
  unfold F_X12_shows
  rw [m3, u0, Option.bind_some]
  simp only [bnd]
  rw [I_clN (by omega), if_neg (I_bnd hi (by omega)), e3, t0, Option.bind_some]
  have fT : fr [25, 26] [132, 133, 134, 135] S T := fU.trans ((fr_of (by decide) t2).mono (by decide) (by decide))
  refine ⟨T, rfl, rlC_fr (fr_of (by decide) t2) rl (by decide) (by decide) (by decide) (by decide) (by decide), fun x hx => ?_, fT⟩
  rw [t1 x hx, zz_row L12 (fun i hi => (yRw_lt w hi).1) hx]
theorem r_shows {i : Nat} (hf : 1000 ≤ f) (ok : yOk Y) (w : yRw Y ρ) (h1 : sR S 94 5 = some q) (h2 : ckX9 sh q = true) (h3 : qOk q) (h4 : bkR S q (yB Y)) (h7 : ∀ x, x < yN Y → sA S (p1 + 1) x = I (yE Y x)) (h9 : sI S p1 1 = I (yV Y)) (h10 : sI S p1 2 = I (yN Y)) (h11 : p1 = 111 ∨ p1 = 118 ∨ p1 = 125) (h12 : sI S 94 40 = I (yV Y)) (hi : i < 200) (e1 : ∀ p, p < yV Y → sA S (p1 + 3) (3 * i + p) = I (yU Y p)) (e2 : sL S (p1 + 6) i = J (e12 ρ)) : ∃ S', F_X12_shows sh f S 94 p1 (I i) = some S' ∧ shC sh S' Y ρ q ∧ fr [25, 26] [132, 133, 134, 135] S S' := by
  obtain ⟨T, t0, t1, t2, t3⟩ := r_shows0 (sh := sh) (f := f) (q := q) (p1 := p1) (i := i) hf ok w h1 h2 h3 h4 h7 h9 h10 h11 hi e1 e2
  exact ⟨T, t0, ⟨t1, t2, (t3.I (by decide)).trans h12, (t3.R 5).trans h1, h2, h3, bkR_fr t3 (by decide) h3 h4⟩, t3⟩
def inB (Y : Ly) (ρ : Nat → Nat) (i : Nat) : Bool := decide (yN Y ≤ i ∧ i < ρ i)
theorem r_isInner {i : Nat} (ok : yOk Y) (w : yRw Y ρ) (h : shC sh S Y ρ q) (hi : i < yL Y) : F_X12_isInner sh f S 94 (I i) = some (if inB Y ρ i = true then 1 else 0) := by
  have L12 := ok.2.2.2.2.2.2.1
  have v3 := ok.2.2.2.1
  have n6 := ok.2.1
  obtain ⟨h1, h2, h3, _⟩ := h
  have r1 := (yRw_lt w hi).1
  have d1 := yD_lt ok hi
  have d2 := yD_lt ok r1
  have a1 : sA S (94 + 39) i = I (yD Y i) := (h1.2.2.1 i hi).2
  have a2 : sA S (94 + 40) i = I (ρ i) := h2 i hi
  have a3 : sA S (94 + 39) (ρ i) = I (yD Y (ρ i)) := (h1.2.2.1 _ r1).2
  have nn : I ((yN Y + yV Y : Nat) : Int) - I (yV Y : Int) = I (yN Y : Int) := by
    rw [I_sub]; congr 1; omega
  have D : ∀ x, x < yL Y → (yD Y x < yN Y ↔ x < yN Y) := by
    intro x hx
    by_cases c : x < yN Y
    · rw [yD_en c]
    · rw [yD_pt (by omega)]; omega
  unfold F_X12_isInner
  rw [I_clN (show i < _ by omega), if_neg (I_bnd (show i < 12 by omega) (by omega)), a1, h1.2.1, h3, nn, ite_ltN (by omega) (by omega)]
  unfold inB
  by_cases c1 : yD Y i < yN Y
  · have := (D i hi).mp c1
    rw [if_pos c1, if_neg (by rw [decide_eq_true_eq]; omega)]
  · have g1 : ¬ i < yN Y := fun h => c1 ((D i hi).mpr h)
    rw [if_neg c1, if_neg (I_bnd (show i < 12 by omega) (by omega)), a2, I_clN (show ρ i < _ by omega), if_neg (I_bnd (show ρ i < 12 by omega) (by omega)), a3, ite_ltN (by omega) (by omega)]
    by_cases c2 : yD Y (ρ i) < yN Y
    · have := (D _ r1).mp c2
      rw [if_pos c2, if_neg (by rw [decide_eq_true_eq]; omega)]
    · rw [if_neg c2, if_neg (I_bnd (show i < 12 by omega) (by omega)), ite_leN (by omega) (by omega)]
      by_cases c3 : ρ i ≤ i
      · rw [if_pos c3, if_neg (by rw [decide_eq_true_eq]; omega)]
      · rw [if_neg c3, if_pos (by rw [decide_eq_true_eq]; omega)]
theorem r_inners (hf : 1000 ≤ f) (ok : yOk Y) (w : yRw Y ρ) (ne : ∀ i, i < yN Y → yN Y ≤ ρ i) (h : shC sh S Y ρ q) : F_X12_inners sh f S 94 = some (I ((yL Y / 2 : Nat) - (yN Y : Int))) := by
  have L12 := ok.2.2.2.2.2.2.1
  have lp : ∀ (d i nf : Nat), i + d = yL Y → d < nf → F_X12_inners_L4 sh f S 94 nf (I (((List.range i).filter (inB Y ρ)).length : Nat)) (I i) = some (I (((List.range (yL Y)).filter (inB Y ρ)).length : Nat)) := by
    intro d
    induction d with
    | zero =>
      intro i nf h1 h2
      obtain ⟨nf, rfl⟩ : ∃ e, nf = e + 1 := ⟨nf - 1, by omega⟩
      have : i = yL Y := by omega
      subst this
      rw [F_X12_inners_L4, h.1.1, if_pos (by rw [I_leN (by omega) (by omega)]; omega)]
    | succ d ih =>
      intro i nf h1 h2
      obtain ⟨nf, rfl⟩ : ∃ e, nf = e + 1 := ⟨nf - 1, by omega⟩
      have ih' := ih (i + 1) nf (by omega) (by omega)
      rw [List.range_succ, List.filter_append, List.length_append, List.filter_cons, List.filter_nil] at ih'
      rw [F_X12_inners_L4, h.1.1, if_neg (by rw [I_leN (by omega) (by omega)]; omega), r_isInner ok w h (by omega), Option.bind_some]
      by_cases c : inB Y ρ i = true
      · rw [if_pos c] at ih'
        rw [if_pos c, if_neg (by decide)]
        simp only [bnd, I_suc]
        exact ih'
      · rw [if_neg c] at ih'
        rw [if_neg c, if_pos rfl]
        simp only [bnd, I_suc]
        rw [show (0 : Int32) = I 0 from rfl, I_add, Int.add_zero]
        exact ih'
  have il := in_len ok w ne
  have e : ((List.range (yL Y)).filter (inB Y ρ)).length = ((List.range (yL Y)).filter (fun i => decide (yN Y ≤ i ∧ i < ρ i))).length := rfl
  have := lp (yL Y) 0 f (by omega) (by omega)
  unfold F_X12_inners
  have this : F_X12_inners_L4 sh f S 94 f 0 0 = some (I (((List.range (yL Y)).filter (inB Y ρ)).length : Nat)) := this
  rw [this]
  congr 2
  rw [e]
  omega
/-- the side of a cut; NONE if the join is none -/
theorem r_sideOf {i : Nat} (hf : 1000 ≤ f) (ok : yOk Y) (w : yRw Y ρ) (c : cn Y ρ) (h : shC sh S Y ρ q) (hi : i < yL Y) : ∃ S', F_X12_sideOf sh f S 94 (I i) = some (if cutB Y ρ i = true then I (sdN Y ρ i) else -1, S') ∧ (∀ x, x ≠ 136 → Sm S S' x) ∧ (cutB Y ρ i = true → ∃ ν, ndC S' Y ν ∧ (∀ k, k < yN Y + yV Y → ν k ≤ k) ∧ (ν (yD Y i) = ν 0 ↔ ¬ rcN (lkW Y ρ i) (pB Y (ρ 0)) &&& pB Y i = 0)) := by
  have L12 := ok.2.2.2.2.2.2.1
  have v3 := ok.2.2.2.1
  have n6 := ok.2.1
  have nn : I ((yN Y + yV Y : Nat) : Int) - I (yV Y : Int) = I (yN Y : Int) := by
    rw [I_sub]; congr 1; omega
  unfold F_X12_sideOf
  rw [r_isInner ok w h hi, Option.bind_some]
  by_cases b : inB Y ρ i = true
  · have bi := of_decide_eq_true b
    rw [if_pos b, if_neg (by decide)]
    have r1 := (yRw_lt w hi).1
    obtain ⟨T, ν, t0, t1, t2, t3, t4⟩ := r_sets (sh := sh) (p1 := I i) hf ok h.1 (fun x hx => ⟨h.2.1 x hx, (yRw_lt w hx).1⟩)
    obtain ⟨g1, g2, g3⟩ := cnt_cut ok w c bi.1 hi (by omega) t2 t3
    have cl := cntF_le ν (yN Y + yV Y)
    have cB : cutB Y ρ i = true ↔ 2 ≤ cntF ν (yN Y + yV Y) := by
      unfold cutB
      rw [decide_eq_true_eq]
      constructor
      · rintro ⟨_, _, q⟩
        apply Classical.byContradiction
        intro hn
        exact g1.mp (by omega) q
      · intro q
        refine ⟨bi.1, bi.2, ?_⟩
        apply Classical.byContradiction
        intro hn
        have := g1.mpr hn
        omega
    have q2 : ((2 : Int32) ≤ I (cntF ν (yN Y + yV Y) : Int)) = (2 ≤ cntF ν (yN Y + yV Y)) := I_leN (a := 2) (by omega) (by omega)
    rw [t0, Option.bind_some]
    simp only [q2]
    by_cases k : cutB Y ρ i = true
    · have hT := shC_sm h t4
      rw [if_pos (cB.mp k), if_pos k]
      have lp : ∀ (d x nf : Nat), x + d = yN Y → d < nf → F_X12_sideOf_L23 sh f 94 (I i) nf T (I (mkb (fun k => decide (ν k = ν 0)) x)) (I x) = some (I (mkb (fun k => decide (ν k = ν 0)) (yN Y)), T) := by
        intro d
        induction d with
        | zero =>
          intro x nf h1 h2
          obtain ⟨nf, rfl⟩ : ∃ e, nf = e + 1 := ⟨nf - 1, by omega⟩
          have : x = yN Y := by omega
          subst this
          rw [F_X12_sideOf_L23, hT.1.2.1, hT.2.2.1, nn, if_pos (by rw [I_leN (by omega) (by omega)]; omega)]
        | succ d ih =>
          intro x nf h1 h2
          obtain ⟨nf, rfl⟩ : ∃ e, nf = e + 1 := ⟨nf - 1, by omega⟩
          have a1 : sA T (94 + 42) x = I (ν x) := t1 x (by omega)
          have a0 : sA T (94 + 42) 0 = I (ν 0) := t1 0 (by omega)
          have b1 := t2.1 x (by omega)
          have b0 := t2.1 0 (by omega)
          have lm := mkb_lt (fun k => decide (ν k = ν 0)) x
          have p2 : 2 ^ x ≤ 2 ^ 6 := Nat.pow_le_pow_right (by omega) (by omega)
          have ih' := ih (x + 1) nf (by omega) (by omega)
          rw [mkb] at ih'
          rw [F_X12_sideOf_L23, hT.1.2.1, hT.2.2.1, nn, if_neg (by rw [I_leN (by omega) (by omega)]; omega), I_clN (show x < _ by omega), if_neg (I_bnd (show x < 9 by omega) (by omega)), if_neg (by decide), show (0 : Int32).toNatClampNeg = 0 from rfl, a1, a0, ite_eqN (by omega) (by omega)]
          by_cases e : ν x = ν 0
          · rw [if_pos (decide_eq_true e)] at ih'
            rw [if_pos e]
            simp only [bnd, I_suc]
            rw [one_shl (by omega), I_or (by omega) (by omega)]
            exact ih'
          · rw [if_neg (by rw [decide_eq_true_eq]; exact e)] at ih'
            rw [if_neg e]
            simp only [bnd, I_suc]
            rw [show (0 : Int32) = I ((0 : Nat) : Int) from rfl, I_or (by omega) (by omega)]
            exact ih'
      have := lp (yN Y) 0 f (by omega) (by omega)
      rw [g2] at this
      exact ⟨T, this, t4, fun _ => ⟨ν, t1, t2.1, g3⟩⟩
    · rw [if_neg (fun h => k (cB.mpr h)), if_neg k]
      exact ⟨T, rfl, t4, fun h => absurd h k⟩
  · have k : ¬ cutB Y ρ i = true := by
      intro h
      have := of_decide_eq_true h
      exact b (decide_eq_true ⟨this.1, this.2.1⟩)
    rw [if_neg b, if_pos rfl, if_neg k]
    exact ⟨S, rfl, fun _ _ => Sm.rfl, fun h => absurd h k⟩
theorem I_sd (ok : yOk Y) (i : Nat) : ¬ I (sdN Y ρ i : Int) = (-1 : Int32) := by
  have n6 := ok.2.1
  have : sdN Y ρ i < 2 ^ yN Y := mkb_lt _ _
  have p2 : 2 ^ yN Y ≤ 2 ^ 6 := Nat.pow_le_pow_right (by omega) (by omega)
  exact I_nn _ (by omega)
theorem r_cuts (hf : 1000 ≤ f) (ok : yOk Y) (w : yRw Y ρ) (c : cn Y ρ) (h : shC sh S Y ρ q) : ∃ S', F_X12_cuts sh f S 94 = some (I ((cl Y ρ (yL Y)).length : Nat), S') ∧ ∀ x, x ≠ 136 → Sm S S' x := by
  have L12 := ok.2.2.2.2.2.2.1
  have lp : ∀ (d i nf : Nat) (T : St), i + d = yL Y → d < nf → (∀ x, x ≠ 136 → Sm S T x) → ∃ S', F_X12_cuts_L4 sh f 94 nf T (I ((cl Y ρ i).length : Nat)) (I i) = some (I ((cl Y ρ (yL Y)).length : Nat), S') ∧ ∀ x, x ≠ 136 → Sm S S' x := by
    intro d
    induction d with
    | zero =>
      intro i nf T h1 h2 fT
      obtain ⟨nf, rfl⟩ : ∃ e, nf = e + 1 := ⟨nf - 1, by omega⟩
      have : i = yL Y := by omega
      subst this
      rw [F_X12_cuts_L4, (shC_sm h fT).1.1, if_pos (by rw [I_leN (by omega) (by omega)]; omega)]
      exact ⟨T, rfl, fT⟩
    | succ d ih =>
      intro i nf T h1 h2 fT
      obtain ⟨nf, rfl⟩ : ∃ e, nf = e + 1 := ⟨nf - 1, by omega⟩
      have hT := shC_sm h fT
      obtain ⟨U, u0, u1, _⟩ := r_sideOf (sh := sh) (f := f) hf ok w c hT (show i < yL Y by omega)
      have fU : ∀ x, x ≠ 136 → Sm S U x := fun x hx => (fT x hx).trans (u1 x hx)
      have ih' := ih (i + 1) nf U (by omega) (by omega) fU
      rw [cl_s, List.length_append] at ih'
      rw [F_X12_cuts_L4, hT.1.1, if_neg (by rw [I_leN (by omega) (by omega)]; omega), u0, Option.bind_some]
      by_cases k : cutB Y ρ i = true
      · rw [if_pos k] at ih'
        rw [if_pos k, if_neg (I_sd ok i)]
        simp only [bnd, I_suc]
        exact ih'
      · rw [if_neg k] at ih'
        rw [if_neg k, if_pos rfl]
        simp only [bnd, I_suc]
        rw [show (0 : Int32) = I 0 from rfl, I_add, Int.add_zero]
        exact ih'
  unfold F_X12_cuts
  exact lp (yL Y) 0 f S (by omega) (by omega) (fun _ _ => Sm.rfl)
end AKa
