section B0a
variable {sh : List Sh} {S S' : St} {p : PC} {q : Option Nat} {w : Nat} {X : NS} {f : Nat}
theorem inv0_g (h : inv0 sh S p q w X) (I94 : ∀ j, j ≠ 0 → j < 19 → sI S' 94 j = sI S 94 j) (J94 : sJ S' 94 = sJ S 94) (R94 : ∀ j, sR S' 94 j = sR S 94 j) (k0 : Sm S S' 0) (k13 : sR S' 13 2 = sR S 13 2) (k : ∀ x, 1 ≤ x ∧ x ≤ 12 ∨ 44 ≤ x ∧ x ≤ 46 ∨ x = 59 ∨ 61 ≤ x ∧ x ≤ 70 ∨ 88 ≤ x ∧ x ≤ 93 ∨ 95 ≤ x ∧ x ≤ 110 ∨ x = 156 ∨ 159 ≤ x → Sm S S' x) : inv0 sh S' p q w X := by
  obtain ⟨h1, h2, ⟨d1, d2, d3⟩, ⟨p1, p2, p3, p4, p5⟩, ⟨t1, t2, t3, t4, t5⟩, ⟨s1, s2, s3, s4⟩, ⟨h7, h8, h9, h10⟩, ⟨e1, e2, e3, e4, e5⟩, h12, h13, l1, l2⟩ := h
  have k1 := k 1 (by omega)
  refine ⟨h1, ⟨(k0.R 10).trans h2.1, (k1.R 10).trans h2.2.1, (k0.R 11).trans h2.2.2.1, k13.trans h2.2.2.2.1, (k0.R 12).trans h2.2.2.2.2.1, (k0.R 13).trans h2.2.2.2.2.2⟩, ⟨d1, d2, d3⟩, ⟨(R94 5).trans p1, (R94 6).trans p2, p3, p4, p5⟩, ⟨t1, (k1.I 1).trans t2, (I94 9 (by omega) (by omega)).trans t3, by rw [(k 2 (by omega)).1, (k 107 (by omega)).1]; exact t4, fun i => by rw [(k 2 (by omega)).A]; exact t5 i⟩, ⟨by rw [I94 3 (by omega) (by omega), k1.I]; exact s1, by rw [I94 1 (by omega) (by omega), k0.I]; exact s2, by rw [I94 2 (by omega) (by omega), k0.I, k1.I]; exact s3, by rw [I94 4 (by omega) (by omega), k0.I, k0.I]; exact s4⟩, ⟨h7, bkC_sm h8 (fun x a b => k x (by omega)), h9, fun z hz => ⟨(h10 z hz).1, bkR_sm (h10 z hz).2 (fun x a b => k x ?_)⟩⟩, ⟨e1, ((k 44 (by omega)).I 2).trans e2, (I94 17 (by omega) (by omega)).trans e3, e4, fun i hi => ?_⟩, fun i hi => ?_, anR_sm h13 (k0.I 15) J94 (k _ (by omega)) (k _ (by omega)) (k 156 (by omega)), ⟨by rw [I94 18 (by omega) (by omega), k0.I]; exact l1, by rw [k0.I]; exact l2⟩⟩
  · have := (p5 z hz).2.1
    omega
  · obtain ⟨a1, a2, a3, a4, a5, a6, a7⟩ := e5 i hi
    exact ⟨a1, a2, a3, ((k 45 (by omega)).A i).trans a4, ((k 108 (by omega)).A i).trans a5, ((k 46 (by omega)).A i).trans a6, ((k 109 (by omega)).A i).trans a7⟩
  · obtain ⟨a1, a2, a3, a4⟩ := h12 i hi
    exact ⟨a1, a2, ((k 59 (by omega)).A i).trans a3, ((k 110 (by omega)).A i).trans a4⟩
/-- calls that leave all but cells of work -/
theorem inv_g (h : inv sh S p q w X) (h' : inv0 sh S' p q w X) (z : jnC S' (fun _ _ => 0)) (e4 : sI S' 0 14 = sI S 0 14) (k : ∀ x, 23 ≤ x ∧ x ≤ 39 ∨ 71 ≤ x ∧ x ≤ 87 ∨ 111 ≤ x ∧ x ≤ 117 → Sm S S' x) : inv sh S' p q w X := by
  obtain ⟨h1, h2, h3⟩ := h
  refine ⟨h', z, fun l => ?_⟩
  obtain ⟨V, v⟩ := h3 (e4 ▸ l)
  have := pg h1
  exact ⟨V, liV_sm v rfl rfl rfl (fun x a b => k x (by omega)) (fun x a b => k x (by omega))⟩
theorem inv_22 (h : inv sh S p q w X) (z : jnC S' (fun _ _ => 0)) (k : ∀ x, x < 14 ∨ 22 < x → Sm S S' x) : inv sh S' p q w X := inv_g h (inv0_g h.1 (fun j _ _ => (k 94 (by omega)).I j) (k 94 (by omega)).2.2.2.1 (fun j => (k 94 (by omega)).R j) (k 0 (by omega)) ((k 13 (by omega)).R 2) (fun x hx => k x (by omega))) z ((k 0 (by omega)).I 14) (fun x hx => k x (by omega))
end B0a
section B0b
variable {sh : List Sh} {f g V i : Nat} {S : St} {X : NS} {d : Dw}
theorem c_findD {cc : Nat} {σ : Nat → Nat} (v : liV S g X V) (e : enK S g X V i d cc) (hi : (xD X V)[i]? = some d) (hs : σ ∈ yHg d.2.1) {j0 : Nat} {d0 : Dw} (h0 : (xD X V)[j0]? = some d0) (g0 : d0.1 = d.1) (q0 : d0.2.2 = σ) : ∀ (dd j nf : Nat), j + dd = j0 → dd < nf → F_X3_find_L3 sh f S g (I d.1) (J (e12 σ)) nf (I j) = some (I j0) := by
  have ok := e.2.2.2.2.1
  have hl := (List.getElem?_eq_some_iff.mp h0).1
  have l200 := v.2.2.1
  have s17 : sI S g 17 = I ((xD X V).length : Nat) := (v.2.2.2.1.1 v.2.2.1).2.1
  intro dd
  induction dd using Nat.strongRecOn with
  | ind dd ih =>
    intro j nf hj hn
    obtain ⟨nf, rfl⟩ : ∃ e, nf = e + 1 := ⟨nf - 1, by omega⟩
    have jl : j < (xD X V).length := by omega
    obtain ⟨d', hd'⟩ : ∃ d', (xD X V)[j]? = some d' := ⟨_, List.getElem?_eq_getElem jl⟩
    obtain ⟨cc', e'⟩ := enK_of v hd'
    have a4 : sA S (g + 4) j = I d'.1 := e'.2.2.2.2.2.2.2.1.2.2.2.1
    have a1 : sL S (g + 1) j = J (e12 d'.2.2) := e'.2.2.2.2.2.2.2.1.1
    have nb : ¬ (I (j : Int) < 0 ∨ 200 ≤ j) := I_bnd (show j < 200 by omega) (by omega)
    have b1 := e'.2.1
    have b2 := e.2.1
    have l1 := e12_lt d'.2.2
    have l2 := e12_lt σ
    have no : j ≠ j0 → ∀ nf, dd - 1 < nf → F_X3_find_L3 sh f S g (I d.1) (J (e12 σ)) nf (I ((j + 1 : Nat) : Int)) = some (I j0) := fun jn nf hnf => ih (dd - 1) (by omega) (j + 1) nf (by omega) (by omega)
    rw [F_X3_find_L3, s17, if_neg (by rw [I_leN (by omega) (by omega)]; omega), I_clN (show j < _ by omega), if_neg nb, a4, ite_eqN (by omega) (by omega)]
    by_cases c1 : d'.1 = d.1
    · obtain ⟨_, y1⟩ := en_cc v e hi hd' c1
      have m1 : d'.2.2 ∈ yHg d.2.1 := by rw [← y1]; exact e'.2.2.2.2.2.1
      have lg : (lg_cmp (J (e12 d'.2.2)) (J (e12 σ)) = 0) = (e12 d'.2.2 = e12 σ) := by
        rw [lgc, J_eqN (by omega) (by omega)]
      rw [if_pos c1, if_neg nb, a1]
      simp only [lg]
      by_cases c2 : e12 d'.2.2 = e12 σ
      · have r1 := (yRows_mem ok).mpr ⟨((yHg_mem ok).mp m1).1, ((yHg_mem ok).mp m1).2.1⟩
        have r2 := (yRows_mem ok).mpr ⟨((yHg_mem ok).mp hs).1, ((yHg_mem ok).mp hs).2.1⟩
        have es := e12_inj ok r1 r2 c2
        have G := y_Gp ok
        have := en_uni v e hi hd' h0 c1 g0 (τ := σ) (by rw [es]; exact Eqv.refl G) (by rw [q0]; exact Eqv.refl G)
        rw [if_pos c2, this]
      · rw [if_neg c2]
        simp only [bnd, I_suc]
        refine no (fun ej => ?_) nf (by
          have : j ≠ j0 := fun ej => by
            subst ej
            have : d' = d0 := Option.some.inj (hd'.symm.trans h0)
            subst this
            exact c2 (by rw [q0])
          omega)
        subst ej
        have : d' = d0 := Option.some.inj (hd'.symm.trans h0)
        subst this
        exact c2 (by rw [q0])
    · rw [if_neg c1]
      simp only [bnd, I_suc]
      have jn : j ≠ j0 := fun ej => by
        subst ej
        have : d' = d0 := Option.some.inj (hd'.symm.trans h0)
        subst this
        exact c1 g0
      exact no jn nf (by omega)
theorem e12_99 : ∀ π : Nat → Nat, (∀ i, π i = 99) → e12 π = 0 := fun π h => by
  unfold e12
  rw [eN_cg (π := zz π) (π' := fun _ => 0) (m := 12) (fun i _ => by unfold zz; rw [h i, if_neg (by omega)])]
  rfl
end B0b
section B0c
variable {sh : List Sh} {S : St} {p : PC} {q : Option Nat} {w : Nat} {X : NS} {f : Nat}
/-- the class packs the told row -/
theorem c_pack6 {av : Nat → Int} {L : Nat} (hL : L ≤ 12) (hev : L % 2 = 0) (hav : ∀ j, j < 6 → -2147483648 ≤ av j ∧ av j < 2147483648) {α : Type} (k : Int64 → Option α) : ((F_X8_packPair sh f S (I (av 0)) 0 (I L) 0).bind fun y4 => (F_X8_packPair sh f S (I (av 1)) 2 (I L) y4).bind fun y5 => (F_X8_packPair sh f S (I (av 2)) 4 (I L) y5).bind fun y6 => (F_X8_packPair sh f S (I (av 3)) 6 (I L) y6).bind fun y7 => (F_X8_packPair sh f S (I (av 4)) 8 (I L) y7).bind fun y8 => (F_X8_packPair sh f S (I (av 5)) 10 (I L) y8).bind k) = k (pkV av L 6) := by
  have z : pkV av L 0 = 0 := by
    unfold pkV
    rw [if_pos (show gdB av L 0 = true from rfl), e12_99 _ (fun i => by unfold prm; rw [if_neg (by omega)])]
    rfl
  have c0 := c_pack (sh := sh) (f := f) (S := S) (av := av) (m := 0) hL hev (by omega) (hav 0 (by omega))
  have c1 := c_pack (sh := sh) (f := f) (S := S) (av := av) (m := 1) hL hev (by omega) (hav 1 (by omega))
  have c2 := c_pack (sh := sh) (f := f) (S := S) (av := av) (m := 2) hL hev (by omega) (hav 2 (by omega))
  have c3 := c_pack (sh := sh) (f := f) (S := S) (av := av) (m := 3) hL hev (by omega) (hav 3 (by omega))
  have c4 := c_pack (sh := sh) (f := f) (S := S) (av := av) (m := 4) hL hev (by omega) (hav 4 (by omega))
  have c5 := c_pack (sh := sh) (f := f) (S := S) (av := av) (m := 5) hL hev (by omega) (hav 5 (by omega))
  rw [z] at c0
  have c0' : F_X8_packPair sh f S (I (av 0)) 0 (I L) 0 = some (pkV av L 1) := c0
  have c1' : F_X8_packPair sh f S (I (av 1)) 2 (I L) (pkV av L 1) = some (pkV av L 2) := c1
  have c2' : F_X8_packPair sh f S (I (av 2)) 4 (I L) (pkV av L 2) = some (pkV av L 3) := c2
  have c3' : F_X8_packPair sh f S (I (av 3)) 6 (I L) (pkV av L 3) = some (pkV av L 4) := c3
  have c4' : F_X8_packPair sh f S (I (av 4)) 8 (I L) (pkV av L 4) = some (pkV av L 5) := c4
  have c5' : F_X8_packPair sh f S (I (av 5)) 10 (I L) (pkV av L 5) = some (pkV av L 6) := c5
  rw [c0', Option.bind_some, c1', Option.bind_some, c2', Option.bind_some, c3', Option.bind_some, c4', Option.bind_some, c5', Option.bind_some]
theorem gd_tl {av : Nat → Int} {L : Nat} (L12 : L ≤ 12) (hev : L % 2 = 0) : gdB av L 6 = true ↔ (∀ x, x < L → 0 ≤ av (x / 2)) ∧ ∀ x, x < L → tlR av L x < L := by
  rw [gdB_iff]
  constructor
  · intro h
    refine ⟨fun x hx => (h (x / 2) (by omega) (by omega)).1, fun x hx => ?_⟩
    have := h (x / 2) (by omega) (by omega)
    unfold tlR dgN
    rw [if_pos hx]
    by_cases c : x % 2 = 0
    · rw [if_pos c]; exact this.2.1
    · rw [if_neg c]; exact this.2.2
  · intro h j hj hl
    have a := h.2 (2 * j) hl
    have b := h.2 (2 * j + 1) (by omega)
    have c := h.1 (2 * j) hl
    unfold tlR dgN at a b
    rw [if_pos hl, if_pos (by omega), show 2 * j / 2 = j by omega] at a
    rw [if_pos (by omega), if_neg (by omega), show (2 * j + 1) / 2 = j by omega] at b
    rw [show 2 * j / 2 = j by omega] at c
    exact ⟨c, a, b⟩
end B0c
