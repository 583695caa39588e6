/-! SAME of the reference: which entry the row belongs to. -/
section AYa
variable {sh : List Sh} {f g V i : Nat} {S : St} {X : NS} {d : Dw} {p1 p2 p3 p4 p5 p6 p7 : Int32}
/-- what is done for an entry of the same rules -/
def smEnd (sh : List Sh) (f : Nat) (T : St) (l11 : Int32) (j : Nat) (k : St → Int32 → Int32 → Option (Int32 × St)) : Option (Int32 × St) := (F_X12_rowAt sh f T 94 (sL T 117 j)).bind fun y1 => (F_X12_spreads sh f T 94 111 142 3 0 y1 (I j)).bind fun y2 => if l11 < 0 ∨ 10395 ≤ l11.toNatClampNeg then none else if sA y2.2 138 l11.toNatClampNeg = I j then some (I j, y2.2) else k y2.2 l11 (I ((j + 1 : Nat) : Int))
theorem r_sm294 {T : St} {l11 : Int32} {j : Nat} {U U' : Nat → Nat} (hj : j < 200) (hV : V ≤ 3) (h1 : sI T 111 1 = I V) (hc : ∀ a, a < V → sA T 142 a = I (U a) ∧ U a < 4) (hr : ∀ a, a < V → sA T 114 (3 * j + a) = I (U' a) ∧ U' a < 4) (k : St → Int32 → Int32 → Option (Int32 × St)) : ∀ (dd p nf : Nat) (b : Bool), p + dd = V → dd < nf → F_X12_same_L294 sh f 94 p1 p2 p3 p4 p5 p6 p7 k nf T l11 (I j) (if b = true then 1 else 0) (I p) = if (b && (List.range dd).all (fun a => U' (p + a) == U (p + a))) = true then smEnd sh f T l11 j k else k T l11 (I ((j + 1 : Nat) : Int)) := by
  have nb : ¬ (I (j : Int) < 0 ∨ 200 ≤ j) := I_bnd hj (by omega)
  have h1' : sI T (94 + 17) 1 = I V := h1
  intro dd
  induction dd with
  | zero =>
    intro p nf b hp hn
    obtain ⟨nf, rfl⟩ : ∃ e, nf = e + 1 := ⟨nf - 1, by omega⟩
    have : p = V := by omega
    subst this
    rw [F_X12_same_L294, h1', if_pos (by rw [I_leN (by omega) (by omega)]; omega), List.range_zero, List.all_nil, Bool.and_true]
    cases b with
    | true =>
      rw [if_pos rfl, if_neg (by decide), if_pos rfl, I_clN (by omega), if_neg nb]
      simp only [bnd, I_suc]
      rfl
    | false =>
      rw [if_pos (show (if false = true then (1 : Int32) else 0) = 0 by decide), if_neg (by decide)]
      simp only [bnd, I_suc]
  | succ dd ih =>
    intro p nf b hp hn
    obtain ⟨nf, rfl⟩ : ∃ e, nf = e + 1 := ⟨nf - 1, by omega⟩
    have c1 := hc p (by omega)
    have c2 := hr p (by omega)
    have m3 : (3 : Int32) * I (j : Int) + I (p : Int) = I ((3 * j + p : Nat) : Int) := by rw [show (3 : Int32) = I 3 from rfl, I_mul, I_add]; rfl
    have al : (List.range (dd + 1)).all (fun a => U' (p + a) == U (p + a)) = (U' p == U p && (List.range dd).all (fun a => U' (p + 1 + a) == U (p + 1 + a))) := by
      rw [List.range_succ_eq_map, List.all_cons, List.all_map]
      congr 2
      funext a
      simp only [Function.comp]
      rw [show p + (a + 1) = p + 1 + a by omega]
    rw [F_X12_same_L294, h1', if_neg (by rw [I_leN (by omega) (by omega)]; omega), al]
    cases b with
    | false =>
      rw [if_pos (show (if false = true then (1 : Int32) else 0) = 0 by decide)]
      simp only [bnd, I_suc]
      have := ih (p + 1) nf false (by omega) (by omega)
      rw [if_neg (by decide)] at this
      rw [this]
      simp only [Bool.false_and]
    | true =>
      have a1 : sA T (94 + 17 + 3) (3 * j + p) = I (U' p) := c2.1
      have a2 : sA T (94 + 48) p = I (U p) := c1.1
      rw [if_pos rfl, if_neg (by decide), m3, I_clN (show 3 * j + p < _ by omega), if_neg (I_bnd (show 3 * j + p < 600 by omega) (by omega)), I_clN (show p < _ by omega), if_neg (I_bnd (show p < 3 by omega) (by omega)), a1, a2]
      simp only [bnd, I_suc]
      rw [ite_eqN (by omega) (by omega)]
      by_cases c : U' p = U p
      · have := ih (p + 1) nf true (by omega) (by omega)
        rw [if_pos rfl] at this
        rw [if_pos c, this, beq_iff_eq.mpr c]
        simp only [Bool.true_and]
      · have := ih (p + 1) nf false (by omega) (by omega)
        rw [if_neg (by decide)] at this
        rw [if_neg c, this, beq_eq_false_iff_ne.mpr c]
        simp only [Bool.false_and, Bool.and_false]
end AYa
section AYb
variable {sh : List Sh} {f g V i : Nat} {S : St} {X : NS} {d : Dw} {p1 p2 p3 p4 p5 p6 p7 : Int32}
theorem en_cc {cc j : Nat} {d' : Dw} (v : liV S g X V) (e : enK S g X V i d cc) (hi : (xD X V)[i]? = some d) (hj : (xD X V)[j]? = some d') (g1 : d'.1 = d.1) : enK S g X V j d' cc ∧ d'.2.1 = d.2.1 := by
  obtain ⟨cc', e'⟩ := enK_of v hj
  have a := (enK_cc v e hi).2.2.1
  have b := (enK_cc v e' hj).2.2.1
  rw [g1] at b
  have : cc = cc' := Option.some.inj (a.symm.trans b)
  subst this
  exact ⟨e', e'.2.2.2.1.trans e.2.2.2.1.symm⟩
theorem en_uni {cc j k : Nat} {d' d'' : Dw} {τ : Nat → Nat} (v : liV S g X V) (e : enK S g X V i d cc) (hi : (xD X V)[i]? = some d) (hj : (xD X V)[j]? = some d') (hk : (xD X V)[k]? = some d'') (g1 : d'.1 = d.1) (g2 : d''.1 = d.1) (q : yEq d.2.1 d'.2.2 τ) (q' : yEq d.2.1 d''.2.2 τ) : j = k := by
  obtain ⟨e1, y1⟩ := en_cc v e hi hj g1
  obtain ⟨e2, y2⟩ := en_cc v e hi hk g2
  rw [← y1] at q q'
  exact en_one e1 e2 hj hk (g2.trans g1.symm) q q'
theorem r_sm276 {cc q at' : Nat} {τ : Nat → Nat} {T1 : St} (hf : 20000 ≤ f) (v : liV S g X V) (e : enK S g X V i d cc) (hi : (xD X V)[i]? = some d) (k1 : ∀ x, 111 ≤ x → x ≤ 117 → Sm S T1 x) (rl : rlC T1 d.2.1) (rb : RB T1 (yHg d.2.1)) (R : spR sh T1 d.2.1 q 111) (ht : (yHg d.2.1)[at']? = some τ) {j0 : Nat} {d0 : Dw} (h0 : (xD X V)[j0]? = some d0) (g0 : d0.1 = d.1) (q0 : yEq d.2.1 d0.2.2 τ) : ∀ (dd j nf : Nat) (T : St), j + dd = j0 → dd < nf → fr [38] [134, 138, 139, 140, 141] T1 T → (∀ (x : Nat) (ρ : Nat → Nat), (yHg d.2.1)[x]? = some ρ → (∀ (j' : Nat) (d' : Dw), j' < j → (xD X V)[j']? = some d' → d'.1 = d.1 → ¬ yEq d.2.1 d'.2.2 ρ) → sA T 138 x = -1) → ∃ T', F_X12_same_L276 sh f 94 p1 p2 p3 p4 p5 p6 p7 nf T (I at') (I j) = some (I j0, T') ∧ fr [38] [134, 138, 139, 140, 141] T1 T' := by
  have ok := e.2.2.2.2.1
  have hl := (List.getElem?_eq_some_iff.mp h0).1
  have l200 := v.2.2.1
  have V3 := v.1.2
  have yv : yV d.2.1 = V := by rw [e.2.2.2.1]; rfl
  have c64 : 4 ^ V ≤ 4 ^ 3 := Nat.pow_le_pow_right (by omega) V3
  have al := (List.getElem?_eq_some_iff.mp ht).1
  have hgl := yHg_len ok
  obtain ⟨cb, ck, cg, cl'⟩ := enK_cc v e hi
  have u4 : ∀ c a, cdU V c a < 4 := fun c a => Nat.mod_lt _ (by omega)
  intro dd
  induction dd using Nat.strongRecOn with
  | ind dd ih =>
    intro j nf T hj hn fT hm
    obtain ⟨nf, rfl⟩ : ∃ e, nf = e + 1 := ⟨nf - 1, by omega⟩
    have jl : j < (xD X V).length := by omega
    obtain ⟨d', hd'⟩ : ∃ d', (xD X V)[j]? = some d' := ⟨_, List.getElem?_eq_getElem jl⟩
    obtain ⟨cc', e'⟩ := enK_of v hd'
    obtain ⟨cb', ck', cg', cl2⟩ := enK_cc v e' hd'
    have kT : ∀ x, 111 ≤ x → x ≤ 117 → Sm S T x := fun x a b => (k1 x a b).trans (fT.2.2.2 x (by omega) (by simp only [List.mem_cons, List.not_mem_nil, or_false]; omega))
    have s0 : sI T (94 + 17) 0 = I ((xD X V).length : Nat) := ((kT 111 (by omega) (by omega)).I 0).trans v.2.2.2.2.2.1.1
    have s1 : sI T 111 1 = I V := ((kT 111 (by omega) (by omega)).I 1).trans v.2.2.2.2.2.2.1
    have hc : ∀ a, a < V → sA T 142 a = I (cdU V cc a) ∧ cdU V cc a < 4 := fun a ha => ⟨by
      rw [fT.A (by decide) (by decide)]
      have := R.2.2.2.2.1 a (by omega)
      rw [e.2.2.2.1] at this
      exact this, u4 cc a⟩
    have hr : ∀ a, a < V → sA T 114 (3 * j + a) = I (cdU V cc' a) ∧ cdU V cc' a < 4 := fun a ha => ⟨by
      rw [(kT 114 (by omega) (by omega)).A]
      have yv' : yV d'.2.1 = V := by rw [e'.2.2.2.1]; rfl
      have := e'.2.2.2.2.2.2.2.2.2.2.1.1 a (by omega)
      rw [e'.2.2.2.1] at this
      exact this, u4 cc' a⟩
    have h294 := r_sm294 (sh := sh) (f := f) (p1 := p1) (p2 := p2) (p3 := p3) (p4 := p4) (p5 := p5) (p6 := p6) (p7 := p7) (T := T) (l11 := I at') (j := j) (by omega) V3 s1 hc hr (F_X12_same_L276 sh f 94 p1 p2 p3 p4 p5 p6 p7 nf) V 0 f true (by omega) (by omega)
    rw [if_pos rfl] at h294
    have h294' : F_X12_same_L294 sh f 94 p1 p2 p3 p4 p5 p6 p7 (F_X12_same_L276 sh f 94 p1 p2 p3 p4 p5 p6 p7 nf) f T (I at') (I j) 1 0 = _ := h294
    rw [F_X12_same_L276, s0, if_neg (by rw [I_leN (by omega) (by omega)]; omega), h294', Bool.true_and]
    by_cases hU : (List.range V).all (fun a => cdU V cc' (0 + a) == cdU V cc (0 + a)) = true
    · rw [if_pos hU]
      have eqU : ∀ a, a < V → cdU V cc' a = cdU V cc a := fun a ha => by
        have := List.all_eq_true.mp hU a (List.mem_range.mpr ha)
        rw [Nat.zero_add] at this
        exact beq_iff_eq.mp this
      have ec := cd_inj ⟨V, by omega⟩ ⟨cc', by omega⟩ ⟨cc, by omega⟩ cb' cb (fun p hp => eqU p.val hp)
      have ec : cc' = cc := congrArg Fin.val ec
      subst ec
      have g1 : d'.1 = d.1 := cl2.trans cl'.symm
      have y1 : d'.2.1 = d.2.1 := e'.2.2.2.1.trans e.2.2.2.1.symm
      have m1 : d'.2.2 ∈ yHg d.2.1 := by rw [← y1]; exact e'.2.2.2.2.2.1
      obtain ⟨k0, hk0⟩ := List.getElem?_of_mem m1
      have k0l := (List.getElem?_eq_some_iff.mp hk0).1
      have rlT : rlC T d.2.1 := rlC_fr fT rl (by decide) (by decide) (by decide) (by decide) (by decide)
      have rbT : RB T (yHg d.2.1) := RB_fr fT rb (by decide) (by decide)
      have RT : spR sh T d.2.1 q 111 := spR_fr fT R
      have l12 := e12_lt d'.2.2
      have ra := r_rowAt (sh := sh) (f := f) (by omega) ok rbT (v := e12 d'.2.2) (by omega) (r := I k0) (Or.inl ⟨k0, d'.2.2, hk0, rfl, rfl⟩)
      have hD : ∀ (x : Nat) (ρ : Nat → Nat), (yHg d.2.1)[x]? = some ρ → yEq d.2.1 d'.2.2 ρ → sA T 138 x = -1 := fun x ρ hx hq => hm x ρ hx (fun j' d'' hj' h'' g'' q'' => by
        have := en_uni v e hi hd' h'' g1 g'' hq q''
        omega)
      obtain ⟨T', V', t0, t1, t2, t3, t4⟩ := r_spreads (sh := sh) (f := f) (d := j) hf ok rlT rbT RT hk0 (by omega) hD
      have s117 : sL T 117 j = J (e12 d'.2.2) := ((kT 117 (by omega) (by omega)).L j).trans e'.2.2.2.2.2.2.2.2.2.2.1.2.1
      have fT' := fT.trans t4
      unfold smEnd
      rw [s117, ra, Option.bind_some, t0, Option.bind_some, I_clN (by omega), if_neg (by rw [show (0 : Int32) = I ((0 : Nat) : Int) from rfl, I_ltN (by omega) (by omega)]; omega)]
      simp only
      rw [t3 at' al]
      by_cases c : at' ∈ V'
      · obtain ⟨ρ, hρ, qρ⟩ := (t2 at').mp c
        have : ρ = τ := Option.some.inj (hρ.symm.trans ht)
        subst this
        have := en_uni v e hi hd' h0 g1 g0 qρ q0
        rw [if_pos c, if_pos rfl, this]
        exact ⟨T', rfl, fT'⟩
      · have no : sA T 138 at' = -1 := hm at' τ ht (fun j' d'' hj' h'' g'' q'' => by
          have := en_uni v e hi h'' h0 g'' g0 q'' q0
          omega)
        have jn : j ≠ j0 := by
          intro ej
          subst ej
          have : d' = d0 := Option.some.inj (hd'.symm.trans h0)
          subst this
          exact c ((t2 at').mpr ⟨τ, ht, q0⟩)
        rw [if_neg c, no, if_neg (fun q => I_nn j (by omega) q.symm)]
        refine ih (dd - 1) (by omega) (j + 1) nf T' (by omega) (by omega) fT' (fun x ρ hx hno => ?_)
        have xl := (List.getElem?_eq_some_iff.mp hx).1
        rw [t3 x xl]
        by_cases c2 : x ∈ V'
        · obtain ⟨ρ', hρ, qρ⟩ := (t2 x).mp c2
          have : ρ' = ρ := Option.some.inj (hρ.symm.trans hx)
          subst this
          exact absurd qρ (hno j d' (by omega) hd' g1)
        · rw [if_neg c2]
          exact hm x ρ hx (fun j' d'' hj' => hno j' d'' (by omega))
    · rw [if_neg hU]
      have jn : j ≠ j0 := by
        intro ej
        subst ej
        have : d' = d0 := Option.some.inj (hd'.symm.trans h0)
        subst this
        rw [g0] at cg'
        have : cc = cc' := Option.some.inj (cg.symm.trans cg')
        subst this
        exact hU (List.all_eq_true.mpr (fun a _ => beq_iff_eq.mpr rfl))
      exact ih (dd - 1) (by omega) (j + 1) nf T (by omega) (by omega) fT (fun x ρ hx hno => hm x ρ hx (fun j' d'' hj' => hno j' d'' (by omega)))
end AYb
