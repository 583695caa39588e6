/-! THE REFERENCE lists a drawing. -/
noncomputable def osum : List Dw → Nat
  | [] => 0
  | d :: r => obN d.2.1 d.2.2 + osum r
theorem osum_app : ∀ A B : List Dw, osum (A ++ B) = osum A + osum B
  | [], B => by rw [List.nil_append, osum, Nat.zero_add]
  | a :: A, B => by
    rw [List.cons_append, osum, osum, osum_app A B]
    omega
/-- the i-th drawing as the reference tells it -/
def rEn (S : St) (p1 i : Nat) (d : Dw) : Prop := (∀ p, p < yV d.2.1 → sA S (p1 + 3) (3 * i + p) = I (yU d.2.1 p)) ∧ sL S (p1 + 6) i = J (e12 d.2.2) ∧ sA S (p1 + 5) i = I (yNa d.2.1) ∧ sA S (p1 + 4) i = I (obN d.2.1 d.2.2)
def rLs (S : St) (p1 : Nat) (DL : List Dw) : Prop := sI S p1 0 = I (DL.length : Nat) ∧ sI S p1 3 = I (osum DL : Nat) ∧ ∀ (i : Nat) (d : Dw), DL[i]? = some d → rEn S p1 i d
abbrev nC (p1 : Nat) : List Nat := [134, 138, 139, 140, 141, p1, p1 + 3, p1 + 4, p1 + 5, p1 + 6]
def nF (p1 : Nat) (S T : St) : Prop := fr [38] (nC p1) S T ∧ sI T p1 1 = sI S p1 1 ∧ sI T p1 2 = sI S p1 2
section AHa
variable {sh : List Sh} {f q p1 : Nat} {Y : Ly} {S T : St}
theorem nF.rfl : nF p1 S S := ⟨fr.rfl, Eq.refl _, Eq.refl _⟩
theorem nF.trans {U : St} (h : nF p1 S T) (g : nF p1 T U) : nF p1 S U := ⟨h.1.trans g.1, g.2.1.trans h.2.1, g.2.2.trans h.2.2⟩
theorem nF_fr {cs : List Nat} {U : St} (h : nF p1 S T) (hp : p1 = 111 ∨ p1 = 118 ∨ p1 = 125) (g : fr [38] cs T U) (a : ∀ x, x ∈ cs → x ∈ nC p1) (b : ¬ p1 ∈ cs) : nF p1 S U := ⟨h.1.trans (g.mono (fun _ h => h) a), ((g.2.2.2 p1 (by omega) b).I 1).trans h.2.1, ((g.2.2.2 p1 (by omega) b).I 2).trans h.2.2⟩
theorem nC_in {x : Nat} (hp : p1 = 111 ∨ p1 = 118 ∨ p1 = 125) (h : x ∈ nC p1) : 106 ≤ x ∧ x ≤ 158 := by
  simp only [List.mem_cons, List.not_mem_nil, or_false] at h
  omega
theorem nC_no {x : Nat} (hp : p1 = 111 ∨ p1 = 118 ∨ p1 = 125) (h1 : x = 132 ∨ x = 133 ∨ x = 135 ∨ x = 136 ∨ x = 137 ∨ x = 142) : ¬ x ∈ nC p1 := by
  simp only [List.mem_cons, List.not_mem_nil, or_false]
  omega
theorem spR_nF (h : nF p1 S T) (r : spR sh S Y q p1) : spR sh T Y q p1 := by
  obtain ⟨h1, h2, h3, h4, h5, h6, h7, h8⟩ := r
  exact ⟨(h.1.R 5).trans h1, h2, h3, bkR_fr h.1 (fun x hx => nC_in h8 hx) h3 h4, fun p hp => (h.1.A (by decide) (nC_no h8 (by omega)) p).trans (h5 p hp), h.2.1.trans h6, h.2.2.trans h7, h8⟩
theorem rlC_nF (hp : p1 = 111 ∨ p1 = 118 ∨ p1 = 125) (h : nF p1 S T) (r : rlC S Y) : rlC T Y := rlC_fr h.1 r (by decide) (by decide) (nC_no hp (by omega)) (nC_no hp (by omega)) (nC_no hp (by omega))
theorem RB_nF (hp : p1 = 111 ∨ p1 = 118 ∨ p1 = 125) (h : nF p1 S T) {R : List (Nat → Nat)} (r : RB S R) : RB T R := RB_fr h.1 r (by decide) (nC_no hp (by omega))
theorem r_lo84 {ρ : Nat → Nat} {k dd gi : Nat} (hf : 20000 ≤ f) (ok : yOk Y) (rl : rlC S Y) (rb : RB S (yHg Y)) (R : spR sh S Y q p1) (hk : (yHg Y)[k]? = some ρ) (hd : dd < 200) (fT : nF p1 S T) (hD : ∀ (x : Nat) (τ : Nat → Nat), (yHg Y)[x]? = some τ → yEq Y ρ τ → sA T 138 x = -1) (k32 : St → Int32 → Int32 → Option (Int32 × St)) : ∃ (T' : St) (V' : List Nat), F_X12_listsOf_L84 sh f 94 p1 k32 f T (I (yNa Y)) (I k) (I dd) 0 = k32 T' (I (yNa Y)) (I ((k + 1 : Nat) : Int)) ∧ nF p1 S T' ∧ sI T' p1 0 = sI T p1 0 ∧ sI T' p1 3 = sI T p1 3 + I (obN Y ρ) ∧ rEn T' p1 dd (gi, Y, ρ) ∧ (∀ i, i ≠ dd → (∀ p, p < 3 → sA T' (p1 + 3) (3 * i + p) = sA T (p1 + 3) (3 * i + p)) ∧ sL T' (p1 + 6) i = sL T (p1 + 6) i ∧ sA T' (p1 + 5) i = sA T (p1 + 5) i ∧ sA T' (p1 + 4) i = sA T (p1 + 4) i) ∧ (∀ x, x ∈ V' ↔ ∃ τ, (yHg Y)[x]? = some τ ∧ yEq Y ρ τ) ∧ ∀ x, x < (yHg Y).length → sA T' 138 x = if x ∈ V' then I dd else sA T 138 x := by
  have v3 := ok.2.2.2.1
  have hp := R.2.2.2.2.2.2.2
  have ll := yHg_len ok
  have kl := (List.getElem?_eq_some_iff.mp hk).1
  have nbk : ¬ (I (k : Int) < 0 ∨ 10395 ≤ k) := by
    rw [show (0 : Int32) = I ((0 : Nat) : Int) from rfl, I_ltN (by omega) (by omega)]
    omega
  have nbd : ¬ (I (dd : Int) < 0 ∨ 200 ≤ dd) := I_bnd hd (by omega)
  have fin : ∀ W : St, nF p1 S W → fr [] [p1 + 3] T W → (∀ p, p < yV Y → sA W (p1 + 3) (3 * dd + p) = I (yU Y p)) → (∀ j, (j < 3 * dd ∨ 3 * dd + 3 ≤ j) → sA W (p1 + 3) j = sA T (p1 + 3) j) → ∃ (T' : St) (V' : List Nat), (if I (k : Int) < 0 ∨ 10395 ≤ k then none else if I (dd : Int) < 0 ∨ 200 ≤ dd then none else bnd (uL W (p1 + 6) dd (sL W (94 + 43) k)) fun S1 => if I (dd : Int) < 0 ∨ 200 ≤ dd then none else bnd (uA S1 (p1 + 5) dd (I (yNa Y))) fun S2 => (F_X12_spreads sh f S2 94 p1 (94 + 48) 3 (0 : Int32) (I k) (I dd)).bind fun y3 => if I (dd : Int) < 0 ∨ 200 ≤ dd then none else bnd (uA y3.2 (p1 + 4) dd y3.1) fun S4 => if I (dd : Int) < 0 ∨ 200 ≤ dd then none else bnd (uI S4 p1 3 ((sI S4 p1 3) + (sA S4 (p1 + 4) dd))) fun S5 => bnd (I (k : Int) + (1 : Int32)) fun x6 => k32 S5 (I (yNa Y)) x6) = k32 T' (I (yNa Y)) (I ((k + 1 : Nat) : Int)) ∧ nF p1 S T' ∧ sI T' p1 0 = sI T p1 0 ∧ sI T' p1 3 = sI T p1 3 + I (obN Y ρ) ∧ rEn T' p1 dd (gi, Y, ρ) ∧ (∀ i, i ≠ dd → (∀ p, p < 3 → sA T' (p1 + 3) (3 * i + p) = sA T (p1 + 3) (3 * i + p)) ∧ sL T' (p1 + 6) i = sL T (p1 + 6) i ∧ sA T' (p1 + 5) i = sA T (p1 + 5) i ∧ sA T' (p1 + 4) i = sA T (p1 + 4) i) ∧ (∀ x, x ∈ V' ↔ ∃ τ, (yHg Y)[x]? = some τ ∧ yEq Y ρ τ) ∧ ∀ x, x < (yHg Y).length → sA T' 138 x = if x ∈ V' then I dd else sA T 138 x := by
    intro W fW fTW w1 w2
    have vk : sL W (94 + 43) k = J (e12 ρ) := (RB_nF hp fW rb).2 k ρ hk
    rw [if_neg nbk, if_neg nbd, vk]
    simp only [bnd]
    rw [if_neg nbd]
    generalize hU : uA (uL W (p1 + 6) dd (J (e12 ρ))) (p1 + 5) dd (I (yNa Y)) = U
    have WU : fr [38] [p1 + 5, p1 + 6] W U := by
      rw [← hU]
      exact (fr.rfl.uL _ _ (by simp)).uA _ _ (by simp)
    have fU : nF p1 S U := nF_fr fW hp WU (fun x hx => by simp only [List.mem_cons, List.not_mem_nil, or_false] at hx ⊢; omega) (by simp only [List.mem_cons, List.not_mem_nil, or_false]; omega)
    have U138 : ∀ x, sA U 138 x = sA T 138 x := fun x => (WU.A (by decide) (by simp only [List.mem_cons, List.not_mem_nil, or_false]; omega) x).trans (fTW.A (by decide) (by simp only [List.mem_cons, List.not_mem_nil, or_false]; omega) x)
    obtain ⟨X, V', x0, x1, x2, x3, x4⟩ := r_spreads (sh := sh) (S := U) (q := q) (p1 := p1) hf ok (rlC_nF hp fU rl) (RB_nF hp fU rb) (spR_nF fU R) hk hd (fun x τ a b => (U138 x).trans (hD x τ a b))
    have x0' : F_X12_spreads sh f U 94 p1 (94 + 48) 3 0 (I k) (I dd) = some (I (V'.length : Nat), X) := x0
    have ob : V'.length = obN Y ρ := by
      rw [ob_hg ok (List.mem_of_getElem? hk)]
      apply cntP_ix _ _ _ x1
      intro x
      rw [x2]
      constructor
      · rintro ⟨τ, a, b⟩
        exact ⟨τ, a, eqB_iff.mpr b⟩
      · rintro ⟨τ, a, b⟩
        exact ⟨τ, a, eqB_iff.mp b⟩
    rw [x0', Option.bind_some, if_neg nbd, if_neg nbd, I_suc, ob]
    have UX : ∀ x, x ≠ 94 → x ≠ 134 → x ≠ 138 → x ≠ 139 → x ≠ 140 → x ≠ 141 → Sm U X x := fun x a b c d e g => x4.2.2.2 x a (by simp only [List.mem_cons, List.not_mem_nil, or_false]; omega)
    have TW : ∀ x, x ≠ 94 → x ≠ p1 + 3 → Sm T W x := fun x a b => fTW.2.2.2 x a (by simp only [List.mem_cons, List.not_mem_nil, or_false]; omega)
    have sv : sA (uA X (p1 + 4) dd (I (obN Y ρ))) (p1 + 4) dd = I (obN Y ρ) := by
      rw [sA_uA, if_pos rfl, up1_if, if_pos rfl]
    have s3 : sI (uA X (p1 + 4) dd (I (obN Y ρ))) p1 3 = sI T p1 3 := by
      show sI X p1 3 = _
      rw [(UX p1 (by omega) (by omega) (by omega) (by omega) (by omega) (by omega)).I, (WU.2.2.2 p1 (by omega) (by simp only [List.mem_cons, List.not_mem_nil, or_false]; omega)).I, (TW p1 (by omega) (by omega)).I]
    have s0 : ∀ j, sI X p1 j = sI T p1 j := fun j => by
      rw [(UX p1 (by omega) (by omega) (by omega) (by omega) (by omega) (by omega)).I, (WU.2.2.2 p1 (by omega) (by simp only [List.mem_cons, List.not_mem_nil, or_false]; omega)).I, (TW p1 (by omega) (by omega)).I]
    rw [sv, s3]
    have X3 : ∀ j, sA X (p1 + 3) j = sA W (p1 + 3) j := fun j => by
      rw [(UX (p1 + 3) (by omega) (by omega) (by omega) (by omega) (by omega) (by omega)).A, (WU.2.2.2 (p1 + 3) (by omega) (by simp only [List.mem_cons, List.not_mem_nil, or_false]; omega)).A]
    have X6 : ∀ i, sL X (p1 + 6) i = up1 (sL W (p1 + 6)) dd (J (e12 ρ)) i := fun i => by
      rw [(UX (p1 + 6) (by omega) (by omega) (by omega) (by omega) (by omega) (by omega)).L, ← hU]
      show sL (uL W (p1 + 6) dd (J (e12 ρ))) (p1 + 6) i = _
      rw [sL_uL, if_pos rfl]
    have X5 : ∀ i, sA X (p1 + 5) i = up1 (sA W (p1 + 5)) dd (I (yNa Y)) i := fun i => by
      rw [(UX (p1 + 5) (by omega) (by omega) (by omega) (by omega) (by omega) (by omega)).A, ← hU, sA_uA, if_pos rfl]
      rfl
    have X4 : ∀ i, sA X (p1 + 4) i = sA T (p1 + 4) i := fun i => by
      rw [(UX (p1 + 4) (by omega) (by omega) (by omega) (by omega) (by omega) (by omega)).A, (WU.2.2.2 (p1 + 4) (by omega) (by simp only [List.mem_cons, List.not_mem_nil, or_false]; omega)).A, (TW (p1 + 4) (by omega) (by omega)).A]
    refine ⟨_, V', rfl, ?_, ?_, sI_self _ _ _ _, ⟨?_, ?_, ?_, ?_⟩, ?_, x2, ?_⟩
    · have fX : nF p1 S X := nF_fr fU hp x4 (fun x hx => by simp only [List.mem_cons, List.not_mem_nil, or_false] at hx ⊢; omega) (by simp only [List.mem_cons, List.not_mem_nil, or_false]; omega)
      refine fX.trans ⟨⟨fun j _ => ?_, rfl, rfl, fun x h1 h2 => ?_⟩, ?_, ?_⟩
      · rw [sI_row _ _ _ (by omega)]
        rfl
      · simp only [List.mem_cons, List.not_mem_nil, or_false] at h2
        exact (by repeat' (first | exact Sm.rfl | (refine Sm.uI ?_ (by omega)) | (refine Sm.uA ?_ (by omega)) | (refine Sm.uJ ?_ (by omega)) | (refine Sm.uL ?_ (by omega)) | (refine Sm.uR ?_ (by omega))))
      · rw [sI_ne _ _ _ (by omega)]
        rfl
      · rw [sI_ne _ _ _ (by omega)]
        rfl
    · rw [sI_ne _ _ _ (by omega)]
      exact s0 0
    · intro p hpv
      show sA (uA X (p1 + 4) dd (I (obN Y ρ))) (p1 + 3) (3 * dd + p) = _
      rw [sA_row _ _ _ (by omega), X3]
      exact w1 p hpv
    · show sL X (p1 + 6) dd = _
      rw [X6, up1_self]
    · show sA (uA X (p1 + 4) dd (I (obN Y ρ))) (p1 + 5) dd = _
      rw [sA_row _ _ _ (by omega), X5, up1_self]
    · exact sv
    · intro i hi
      refine ⟨fun p hp3 => ?_, ?_, ?_, ?_⟩
      · show sA (uA X (p1 + 4) dd (I (obN Y ρ))) (p1 + 3) (3 * i + p) = _
        rw [sA_row _ _ _ (by omega), X3]
        exact w2 _ (by omega)
      · show sL X (p1 + 6) i = _
        rw [X6, up1_ne _ _ hi, (TW (p1 + 6) (by omega) (by omega)).L]
      · show sA (uA X (p1 + 4) dd (I (obN Y ρ))) (p1 + 5) i = _
        rw [sA_row _ _ _ (by omega), X5, up1_ne _ _ hi, (TW (p1 + 5) (by omega) (by omega)).A]
      · show sA (uA X (p1 + 4) dd (I (obN Y ρ))) (p1 + 4) i = _
        rw [sA_uA, if_pos rfl, up1_ne _ _ hi, X4]
    · intro x hx
      show sA (uA X (p1 + 4) dd (I (obN Y ρ))) 138 x = _
      rw [sA_row _ _ _ (by omega), x3 x hx, U138]
  have lp : ∀ (g p nf : Nat) (W : St), p + g = yV Y → g < nf → nF p1 S W → fr [] [p1 + 3] T W → (∀ a, a < p → sA W (p1 + 3) (3 * dd + a) = I (yU Y a)) → (∀ j, (j < 3 * dd ∨ 3 * dd + 3 ≤ j) → sA W (p1 + 3) j = sA T (p1 + 3) j) → ∃ (T' : St) (V' : List Nat), F_X12_listsOf_L84 sh f 94 p1 k32 nf W (I (yNa Y)) (I k) (I dd) (I p) = k32 T' (I (yNa Y)) (I ((k + 1 : Nat) : Int)) ∧ nF p1 S T' ∧ sI T' p1 0 = sI T p1 0 ∧ sI T' p1 3 = sI T p1 3 + I (obN Y ρ) ∧ rEn T' p1 dd (gi, Y, ρ) ∧ (∀ i, i ≠ dd → (∀ p, p < 3 → sA T' (p1 + 3) (3 * i + p) = sA T (p1 + 3) (3 * i + p)) ∧ sL T' (p1 + 6) i = sL T (p1 + 6) i ∧ sA T' (p1 + 5) i = sA T (p1 + 5) i ∧ sA T' (p1 + 4) i = sA T (p1 + 4) i) ∧ (∀ x, x ∈ V' ↔ ∃ τ, (yHg Y)[x]? = some τ ∧ yEq Y ρ τ) ∧ ∀ x, x < (yHg Y).length → sA T' 138 x = if x ∈ V' then I dd else sA T 138 x := by
    intro g
    induction g with
    | zero =>
      intro p nf W h1 h2 fW fTW w1 w2
      obtain ⟨nf, rfl⟩ : ∃ e, nf = e + 1 := ⟨nf - 1, by omega⟩
      have : p = yV Y := by omega
      subst this
      rw [F_X12_listsOf_L84, (spR_nF fW R).2.2.2.2.2.1, if_pos (by rw [I_leN (by omega) (by omega)]; omega), I_clN (show k < _ by omega), I_clN (show dd < _ by omega)]
      exact fin W fW fTW w1 w2
    | succ g ih =>
      intro p nf W h1 h2 fW fTW w1 w2
      obtain ⟨nf, rfl⟩ : ∃ e, nf = e + 1 := ⟨nf - 1, by omega⟩
      have rW := spR_nF fW R
      have ix : (3 : Int32) * I (dd : Int) + I (p : Int) = I ((3 * dd + p : Nat) : Int) := by
        rw [show (3 : Int32) = I 3 from rfl, I_mul, I_add]; rfl
      have cp : sA W (94 + 48) p = I (yU Y p) := rW.2.2.2.2.1 p (by omega)
      rw [F_X12_listsOf_L84, rW.2.2.2.2.2.1, if_neg (by rw [I_leN (by omega) (by omega)]; omega), I_clN (show p < _ by omega), if_neg (I_bnd (show p < 3 by omega) (by omega)), ix, I_clN (show 3 * dd + p < _ by omega), if_neg (I_bnd (show 3 * dd + p < 600 by omega) (by omega)), cp]
      simp only [bnd, I_suc]
      refine ih (p + 1) nf _ (by omega) (by omega) (nF_fr (cs := [p1 + 3]) fW hp (fr.rfl.uA _ _ (by simp)) (fun x hx => by simp only [List.mem_cons, List.not_mem_nil, or_false] at hx ⊢; omega) (by simp only [List.mem_cons, List.not_mem_nil, or_false]; omega)) (fTW.uA _ _ (by simp)) (fun a ha => ?_) (fun j hj => ?_)
      · rw [sA_uA, if_pos rfl, up1_if]
        by_cases c : a = p
        · rw [if_pos (by omega), c]
        · rw [if_neg (by omega)]
          exact w1 a (by omega)
      · rw [sA_uA, if_pos rfl, up1_ne _ _ (by omega)]
        exact w2 j hj
  exact lp (yV Y) 0 f T (by omega) (by omega) fT fr.rfl (fun a ha => by omega) (fun j _ => rfl)
end AHa
