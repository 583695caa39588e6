section BPa
variable {sh : List Sh} {f g V : Nat} {S : St} {X : NS} {Y : Ly}
theorem wk_b (ok : yOk Y) : (wkN Y).natAbs ≤ 10395 := by
  have l := yHg_len ok
  unfold wkN
  rw [smT_sum]
  have : ∀ l : List (Nat → Nat), (smT (sgR Y) l).natAbs ≤ l.length := by
    intro l
    induction l with
    | nil => rw [smT]; simp
    | cons x r ih =>
      have pm := sgR_pm Y x
      rw [smT, List.length_cons]
      rcases pm with p | p <;> rw [p] <;> omega
  have := this (yHg Y)
  omega
theorem walk_0 (hf : 1000 ≤ f) (ok : yOk Y) (h : lyC S 14 Y) : F_X5_walk sh f 10 S 13 (I (mkb (inl (List.range (yL Y))) (yL Y) : Int)) 0 0 = some (I (wkN Y)) := by
  have L12 := ok.2.2.2.2.2.2.1
  have ev := ok.2.2.2.2.2.2.2
  have p : Pr Y (List.range (yL Y)) (fun _ => 99) := ⟨fun x hx hn => absurd (List.mem_range.mpr hx) hn, fun _ _ => rfl, fun _ _ => rfl⟩
  have z : lkA Y (List.range (yL Y)) (fun _ => 99) = 0 := by
    apply Nat.eq_of_testBit_eq
    intro k
    rw [lkA_tb, Nat.zero_testBit]
    have : (List.range (yL Y)).any (fun x => decide (¬ x ∈ List.range (yL Y)) && lkN Y x 99 == 2 ^ k) = false := by
      rw [List.any_eq_false]
      intro x hx
      rw [decide_eq_false (by exact fun q => q hx), Bool.false_and]
      decide
    rw [this, Bool.and_false]
  have := c_walk (sh := sh) (f := f) (S := S) hf ok h (yL Y / 2) (List.range (yL Y)) (fun _ => 99) 10 0 (by rw [List.length_range]; omega) List.pairwise_lt_range (fun x hx => List.mem_range.mp hx) p (by omega) (by omega)
  rw [z, wk_all ok] at this
  exact this
theorem liV_wk {T : St} (v : liV S g X V) (hG : g = 23 ∨ g = 71) (F : ∀ x, ¬ (14 ≤ x ∧ x ≤ 21) → x ≠ g + 15 → x ≠ g + 16 → Sm S T x) (wk : ∀ i cc : Nat, (xG X V)[i]? = some cc → sA T (g + 16) i = 0 ∨ sA T (g + 16) i = 1 ∧ sA T (g + 15) i = I (wkN (yC (xB X) (xN X) (xE X) V cc))) : liV T g X V := by
  obtain ⟨h1, h2, h3, h4, h5, h6, h7, h8, h9⟩ := v
  refine ⟨h1, h2, h3, GA_sm h4 (fun x a b => F x (by omega) (by omega) (by omega)), ⟨((F g (by omega) (by omega) (by omega)).I 16).trans h5.1, ((F g (by omega) (by omega) (by omega)).I 18).trans h5.2.1, fun i cc e => ?_⟩, rLs_cg (p1 := 111) (Or.inl rfl) h6 (fun x hx => F x (by omega) (by omega) (by omega)), ((F 111 (by omega) (by omega) (by omega)).I 1).trans h7, ((F 111 (by omega) (by omega) (by omega)).I 2).trans h8, fun i hi => ((F 112 (by omega) (by omega) (by omega)).A i).trans (h9 i hi)⟩
  obtain ⟨⟨a1, a2, a3, a4, a5, a6, a7⟩, b⟩ := h5.2.2 i cc e
  have q : ∀ x, 8 ≤ x → x ≤ 14 → sA T (g + x) i = sA S (g + x) i := fun x x1 x2 => (F (g + x) (by omega) (by omega) (by omega)).A i
  refine ⟨⟨(q 8 (by omega) (by omega)).trans a1, (q 9 (by omega) (by omega)).trans a2, (q 10 (by omega) (by omega)).trans a3, (q 11 (by omega) (by omega)).trans a4, (q 13 (by omega) (by omega)).trans a5, (q 14 (by omega) (by omega)).trans a6, wk i cc e⟩, ?_⟩
  rw [q 12 (by omega) (by omega)]
  exact b
theorem c_walkAll {b a0 b0 c0 : Nat} (hf : 1000 ≤ f) (v : liV S g X V) (hG : g = 23 ∨ g = 71) (bo : bkOk (xB X)) (kb : bkC S b (xB X)) (hb : b = 3 ∨ b = 61) (n6 : 1 ≤ xN X ∧ xN X ≤ 6) (s2 : sI S 44 2 = I (xN X)) (hk : ∀ i, i < xN X → xE X i < bK (xB X) ∧ sA S 45 i = I (xE X i)) (habc : a0 ≤ 3 ∧ b0 ≤ 3 ∧ c0 ≤ 3) : ∀ (d j nf : Nat) (T : St), j + d = (xG X V).length → d < nf → liV T g X V → (∀ x, ¬ (14 ≤ x ∧ x ≤ 21) → x ≠ g + 15 → x ≠ g + 16 → Sm S T x) → (∀ i, i < j → xP X V a0 b0 c0 i = true → sA T (g + 15) i = I (wkN (xY X V i))) → ∃ T', F_X5_walkAll_L3 sh f 13 b 44 g (I ((16 * a0 + 4 * b0 + c0 : Nat) : Int)) nf T (I j) = some T' ∧ liV T' g X V ∧ (∀ x, ¬ (14 ≤ x ∧ x ≤ 21) → x ≠ g + 15 → x ≠ g + 16 → Sm S T' x) ∧ ∀ i, i < (xG X V).length → xP X V a0 b0 c0 i = true → sA T' (g + 15) i = I (wkN (xY X V i)) := by
  have G20 : (xG X V).length ≤ 20 := gls_len v.1.2
  intro d
  induction d with
  | zero =>
    intro j nf T hj hn vT F g1
    obtain ⟨nf, rfl⟩ : ∃ e, nf = e + 1 := ⟨nf - 1, by omega⟩
    have : j = (xG X V).length := by omega
    subst this
    have sL : sI T g 18 = I ((xG X V).length : Nat) := vT.2.2.2.2.1.2.1
    rw [F_X5_walkAll_L3, sL, if_pos (by rw [I_leN (by omega) (by omega)]; omega)]
    exact ⟨T, rfl, vT, F, g1⟩
  | succ d ih =>
    intro j nf T hj hn vT F g1
    obtain ⟨nf, rfl⟩ : ∃ e, nf = e + 1 := ⟨nf - 1, by omega⟩
    have jG : j < (xG X V).length := by omega
    obtain ⟨e1, ok, c64⟩ := xY_ok v jG
    have nb : ¬ (I (j : Int) < 0 ∨ 20 ≤ j) := I_bnd (show j < 20 by omega) (by omega)
    have inf := (vT.2.2.2.2.1.2.2 j _ e1).1
    have i14 : sA T (g + 14) j = I (pwN (xY X V j) (yV (xY X V j)) : Nat) := inf.2.2.2.2.2.1
    have i8 : sA T (g + 8) j = I (((xG X V).getD j 0 : Nat) : Int) := inf.1
    have i16 : sI T g 16 = I V := vT.2.2.2.2.1.1
    have pcd := pq_code ok habc
    have sL : sI T g 18 = I ((xG X V).length : Nat) := vT.2.2.2.2.1.2.1
    rw [F_X5_walkAll_L3, sL, if_neg (by rw [I_leN (by omega) (by omega)]; omega), I_clN (show j < _ by omega), if_neg nb, i14]
    simp only [pcd, bnd, I_suc]
    by_cases c : pqY (xY X V j) a0 b0 c0 = true
    · rw [if_pos c, if_neg nb]
      rcases inf.2.2.2.2.2.2 with z | ⟨z1, z2⟩
      · obtain ⟨r, U, u0, u1, u2, u3⟩ := c_lay (sh := sh) (f := f) hf T (bkC_sm kb (fun x _ _ => F x (by omega) (by omega) (by omega))) bo hb (Or.inl rfl) n6 (((F 44 (by omega) (by omega) (by omega)).I 2).trans s2) (fun i hi => ⟨(hk i hi).1, ((F 45 (by omega) (by omega) (by omega)).A i).trans (hk i hi).2⟩) v.1 c64
        obtain ⟨r1, ly⟩ := u1 ok
        subst r1
        have u0' : F_X4_lay sh f T (13 + 1) b 44 (I V) (I (((xG X V).getD j 0 : Nat) : Int)) = some (1, U) := u0
        have al := c_allLegs (sh := sh) (f := f) ly ok
        have al' : F_X4_allLegs sh f U (13 + 1) = _ := al
        have wk := walk_0 (sh := sh) (f := f) hf ok ly
        have nar : vp_nar .boolean (1 : Int32) = 1 := rfl
        rw [if_pos z, if_neg nb, i16, i8, u0', Option.bind_some]
        dsimp only
        rw [if_neg (show ¬ (1 : Int32) = 0 by decide), al', Option.bind_some, wk, Option.bind_some, if_neg nb, if_neg nb, nar]
        have FU : ∀ x, ¬ (14 ≤ x ∧ x ≤ 21) → Sm T U x := fun x hx => u3 x (by omega)
        generalize hQ : uA (uA U (g + 15) j (I (wkN (xY X V j)))) (g + 16) j 1 = Q
        have FQ : ∀ x, x ≠ g + 15 → x ≠ g + 16 → Sm U Q x := fun x h1 h2 => by rw [← hQ]; exact (Sm.rfl.uA h1).uA h2
        have q15 : ∀ i, sA Q (g + 15) i = if i = j then I (wkN (xY X V j)) else sA T (g + 15) i := fun i => by
          rw [← hQ, sA_uA, if_neg (by omega), sA_uA, if_pos rfl, up1_if]
          by_cases e : i = j
          · rw [if_pos e, if_pos e]
          · rw [if_neg e, if_neg e]; exact (FU (g + 15) (by omega)).A i
        have q16 : ∀ i, sA Q (g + 16) i = if i = j then 1 else sA T (g + 16) i := fun i => by
          rw [← hQ, sA_uA, if_pos rfl, up1_if]
          by_cases e : i = j
          · rw [if_pos e, if_pos e]
          · rw [if_neg e, if_neg e, sA_uA, if_neg (by omega)]; exact (FU (g + 16) (by omega)).A i
        have FTQ : ∀ x, ¬ (14 ≤ x ∧ x ≤ 21) → x ≠ g + 15 → x ≠ g + 16 → Sm T Q x := fun x h1 h2 h3 => (FU x h1).trans (FQ x h2 h3)
        refine ih (j + 1) nf Q (by omega) (by omega) (liV_wk vT hG FTQ (fun i cc e => ?_)) (fun x h1 h2 h3 => (F x h1 h2 h3).trans (FTQ x h1 h2 h3)) (fun i hi hp => ?_)
        · by_cases ij : i = j
          · right
            subst ij
            have : cc = (xG X V).getD i 0 := Option.some.inj (e.symm.trans e1)
            rw [q16, if_pos rfl, q15, if_pos rfl, this]
            exact ⟨rfl, rfl⟩
          · rw [q16, if_neg ij, q15, if_neg ij]
            exact (vT.2.2.2.2.1.2.2 i cc e).1.2.2.2.2.2.2
        · rw [q15]
          by_cases ij : i = j
          · rw [if_pos ij, ij]
          · rw [if_neg ij]; exact g1 i (by omega) hp
      · rw [if_neg (by rw [z1]; decide)]
        refine ih (j + 1) nf T (by omega) (by omega) vT F (fun i hi hp => ?_)
        by_cases ij : i = j
        · rw [ij]; exact z2
        · exact g1 i (by omega) hp
    · rw [if_neg c]
      refine ih (j + 1) nf T (by omega) (by omega) vT F (fun i hi hp => ?_)
      by_cases ij : i = j
      · rw [ij] at hp; exact absurd hp c
      · exact g1 i (by omega) hp
end BPa
section BPb
/-- a sum over the groups as they come in a list -/
def fsL (F : Nat → Int) : Option Nat → List Dw → Int
  | _, [] => 0
  | pv, d :: r => (if pv = some d.1 then 0 else F d.1) + fsL F (some d.1) r
def laG : Option Nat → List Dw → Option Nat
  | pv, [] => pv
  | _, d :: r => laG (some d.1) r
theorem fsL_app (F : Nat → Int) : ∀ (A E : List Dw) (pv : Option Nat), fsL F pv (A ++ E) = fsL F pv A + fsL F (laG pv A) E
  | [], E, pv => by rw [List.nil_append, fsL, laG, Int.zero_add]
  | d :: r, E, pv => by rw [List.cons_append, fsL, fsL, fsL_app F r E, laG]; omega
theorem laG_app : ∀ (A : List Dw) (d : Dw) (pv : Option Nat), laG pv (A ++ [d]) = some d.1
  | [], d, pv => rfl
  | x :: r, d, pv => by rw [List.cons_append, laG, laG_app r d]
theorem laG_lt {n : Nat} : ∀ (A : List Dw) (pv : Option Nat), (∀ d, d ∈ A → d.1 < n) → (∀ x, pv = some x → x < n) → ∀ x, laG pv A = some x → x < n
  | [], pv, _, h => h
  | d :: r, pv, hA, h => by
    rw [laG]
    exact laG_lt r (some d.1) (fun e he => hA e (List.mem_cons_of_mem _ he)) (fun x hx => by
      have := hA d List.mem_cons_self
      have : d.1 = x := Option.some.inj hx
      omega)
theorem fsL_same (F : Nat → Int) {gi : Nat} : ∀ A : List Dw, (∀ d, d ∈ A → d.1 = gi) → fsL F (some gi) A = 0
  | [], _ => rfl
  | d :: r, h => by
    have e := h d List.mem_cons_self
    rw [fsL, e, if_pos rfl, fsL_same F r (fun x hx => h x (List.mem_cons_of_mem _ hx))]
    rfl
def gS (F : Nat → Int) : Nat → Int
  | 0 => 0
  | n + 1 => gS F n + F n
theorem gS_gN (pq : Nat → Bool) (F : Nat → Int) : ∀ n, gS (fun j => if pq j = true then F j else 0) n = gN pq F n
  | 0 => rfl
  | n + 1 => by rw [gS, gN, gS_gN pq F n]
theorem fsL_gS {B : Bk} {n V : Nat} {ek : Nat → Nat} (F : Nat → Int) : ∀ c, (∀ cc, cc < c → okC B n ek V cc = true → nwL (yC B n ek V cc) (gls B n ek V cc).length (yRows (yC B n ek V cc)) = [] → F (gls B n ek V cc).length = 0) → fsL F none (dls B n ek V c) = gS F (gls B n ek V c).length
  | 0, _ => rfl
  | c + 1, h => by
    have ih := fsL_gS F c (fun cc hc => h cc (by omega))
    rw [dls, gls_s]
    by_cases k : okC B n ek V c = true
    · rw [if_pos k, if_pos k, fsL_app, ih, List.length_append]
      show _ = gS F ((gls B n ek V c).length + 1)
      rw [gS]
      congr 1
      have all : ∀ d, d ∈ nwL (yC B n ek V c) (gls B n ek V c).length (yRows (yC B n ek V c)) → d.1 = (gls B n ek V c).length := fun d hd => by
        unfold nwL at hd
        rw [List.mem_map] at hd
        obtain ⟨ρ, _, rfl⟩ := hd
        rfl
      have last := laG_lt (n := (gls B n ek V c).length) (dls B n ek V c) none (fun d hd => dls_lt B n ek V c d hd) (fun x hx => absurd hx (by simp))
      cases hn : nwL (yC B n ek V c) (gls B n ek V c).length (yRows (yC B n ek V c)) with
      | nil =>
        rw [fsL]
        exact (h c (by omega) k hn).symm
      | cons d r =>
        rw [hn] at all
        have e := all d List.mem_cons_self
        rw [fsL, e, if_neg (fun q => by have := last _ q; omega), fsL_same F r (fun x hx => all x (List.mem_cons_of_mem _ hx)), Int.add_zero]
    · rw [if_neg k, if_neg k, ih, List.append_nil]
theorem no_rows {Y : Ly} (ok : yOk Y) {gi : Nat} (h : nwL Y gi (yRows Y) = []) : wkN Y = 0 := by
  have e : yHg Y = [] := by
    cases hy : yHg Y with
    | nil => rfl
    | cons ρ r =>
      have m : ρ ∈ yHg Y := by rw [hy]; simp
      obtain ⟨σ, h1, h2, _, _⟩ := least_ex ok m
      have k : (gi, Y, σ) ∈ nwL Y gi (yRows Y) := by
        rw [nwL_hg ok]
        unfold nwL
        rw [List.mem_map]
        exact ⟨σ, List.mem_filter.mpr ⟨h1, kpr_iff.mpr ⟨((yHg_mem ok).mp h1).2.2, h2⟩⟩, rfl⟩
      rw [h] at k
      simp at k
  unfold wkN
  rw [e]
  rfl
end BPb
