section AVa
variable {sh : List Sh} {S : St} {p : PC} {q : Option Nat} {w : Nat} {X : NS} {f : Nat}
/-- how many of the first i entries have a property -/
def cnD (P : Dw → Bool) (L : List Dw) (i : Nat) : Nat := (L.take i).countP P
theorem cnD_s {P : Dw → Bool} {L : List Dw} {i : Nat} {d : Dw} (h : L[i]? = some d) : cnD P L (i + 1) = cnD P L i + (if P d = true then 1 else 0) := by
  unfold cnD
  rw [take_s h, List.countP_append, List.countP_singleton]
def trB (V : Nat) (d : Dw) : Bool := decide (((yL d.2.1 / 2 : Nat) : Int) - (yN d.2.1 : Int) = (V : Int) - 1)
def ncB (d : Dw) : Bool := decide ((cl d.2.1 d.2.2 (yL d.2.1)).length = 0)
theorem c_wl {V : Nat} (h : inv sh S p q w X) (hf : 1000 ≤ f) (v : liV S p.2.2.1 X V) : F_X3_withoutLoops sh f S p.2.2.1 = some (I (cnD (trB V) (xD X V) (xD X V).length : Nat)) := by
  have le := v.2.2.1
  have s17 := (v.2.2.2.1.1 le).2.1
  have lp : ∀ (d i nf : Nat), i + d = (xD X V).length → d < nf → F_X3_withoutLoops_L4 sh f S p.2.2.1 nf (I (cnD (trB V) (xD X V) i : Nat)) (I i) = some (I (cnD (trB V) (xD X V) (xD X V).length : Nat)) := by
    intro d
    induction d with
    | zero =>
      intro i nf h1 h2
      obtain ⟨nf, rfl⟩ : ∃ e, nf = e + 1 := ⟨nf - 1, by omega⟩
      have : i = (xD X V).length := by omega
      subst this
      rw [F_X3_withoutLoops_L4, s17, if_pos (by rw [I_leN (by omega) (by omega)]; omega)]
    | succ d ih =>
      intro i nf h1 h2
      obtain ⟨nf, rfl⟩ : ∃ e, nf = e + 1 := ⟨nf - 1, by omega⟩
      have hi : (xD X V)[i]? = some ((xD X V)[i]'(by omega)) := List.getElem?_eq_getElem (by omega)
      generalize (xD X V)[i]'(by omega) = dd at hi
      obtain ⟨cc, e⟩ := enK_of v hi
      have ih' := ih (i + 1) nf (by omega) (by omega)
      rw [cnD_s hi] at ih'
      have L12 := e.2.2.2.2.1.2.2.2.2.2.2.1
      have n6 := e.2.2.2.2.1.2.1
      have hV := v.1
      rw [F_X3_withoutLoops_L4, s17, if_neg (by rw [I_leN (by omega) (by omega)]; omega), c_loops e, Option.bind_some]
      have z : (I ((yL dd.2.1 / 2 : Nat) - (yN dd.2.1 : Int) - V + 1) = (0 : Int32)) = (trB V dd = true) := by
        unfold trB
        rw [show (0 : Int32) = I 0 from rfl, I_eq (by omega) (by omega), decide_eq_true_eq]
        exact propext ⟨fun h => by omega, fun h => by omega⟩
      simp only [z]
      by_cases c : trB V dd = true
      · rw [if_pos c] at ih'
        rw [if_pos c]
        simp only [bnd, I_suc]
        exact ih'
      · rw [if_neg c] at ih'
        rw [if_neg c]
        simp only [bnd, I_suc]
        rw [show (0 : Int32) = I 0 from rfl, I_add, Int.add_zero]
        exact ih'
  exact lp (xD X V).length 0 f (by omega) (by omega)
theorem c_wc {V : Nat} (h : inv sh S p q w X) (hf : 1000 ≤ f) (v : liV S p.2.2.1 X V) : F_X3_withoutCuts sh f S p.2.2.1 = some (I (cnD ncB (xD X V) (xD X V).length : Nat)) := by
  have le := v.2.2.1
  have s17 := (v.2.2.2.1.1 le).2.1
  have lp : ∀ (d i nf : Nat), i + d = (xD X V).length → d < nf → F_X3_withoutCuts_L4 sh f S p.2.2.1 nf (I (cnD ncB (xD X V) i : Nat)) (I i) = some (I (cnD ncB (xD X V) (xD X V).length : Nat)) := by
    intro d
    induction d with
    | zero =>
      intro i nf h1 h2
      obtain ⟨nf, rfl⟩ : ∃ e, nf = e + 1 := ⟨nf - 1, by omega⟩
      have : i = (xD X V).length := by omega
      subst this
      rw [F_X3_withoutCuts_L4, s17, if_pos (by rw [I_leN (by omega) (by omega)]; omega)]
    | succ d ih =>
      intro i nf h1 h2
      obtain ⟨nf, rfl⟩ : ∃ e, nf = e + 1 := ⟨nf - 1, by omega⟩
      have hi : (xD X V)[i]? = some ((xD X V)[i]'(by omega)) := List.getElem?_eq_getElem (by omega)
      generalize (xD X V)[i]'(by omega) = dd at hi
      obtain ⟨cc, e⟩ := enK_of v hi
      have ih' := ih (i + 1) nf (by omega) (by omega)
      rw [cnD_s hi] at ih'
      have e8 := e.2.2.2.2.2.2.2.1
      have ec : sA S (p.2.2.1 + 5) i = I (cl dd.2.1 dd.2.2 (yL dd.2.1)).length := e8.2.2.2.2.1
      have c2 := e8.2.2.2.2.2.1
      rw [F_X3_withoutCuts_L4, s17, if_neg (by rw [I_leN (by omega) (by omega)]; omega), I_clN (by omega), if_neg (I_bnd e.1 (by omega)), ec, show (0 : Int32) = I ((0 : Nat) : Int) from rfl, ite_eqN (by omega) (by omega)]
      by_cases c : (cl dd.2.1 dd.2.2 (yL dd.2.1)).length = 0
      · rw [if_pos (show ncB dd = true from decide_eq_true c)] at ih'
        rw [if_pos c]
        simp only [bnd, I_suc]
        exact ih'
      · rw [if_neg (show ¬ ncB dd = true from fun h => c (of_decide_eq_true h))] at ih'
        rw [if_neg c]
        simp only [bnd, I_suc]
        rw [I_add, show ((0 : Nat) : Int) = 0 from rfl, Int.add_zero]
        exact ih'
  exact lp (xD X V).length 0 f (by omega) (by omega)
/-- the reference goes through its list -/
theorem r_cnt126 {V : Nat} {x : Int32} (h : inv sh S p q w X) (hf : 1000 ≤ f) (v : liV S p.2.2.1 X V) (h40 : sI S 94 40 = I V) (P : Dw → Bool) (hP : x = 5 ∧ P = trB V ∨ ¬ x = 5 ∧ P = ncB) : ∀ (d i nf : Nat) (T : St), i + d = (xD X V).length → d < nf → fr [25, 26] [132, 133, 134, 135, 136] S T → ∃ T', F_X12_count_L126 sh f 94 x nf T (I (cnD P (xD X V) i : Nat)) (I i) = some (I (cnD P (xD X V) (xD X V).length : Nat), T') ∧ fr [25, 26] [132, 133, 134, 135, 136] S T' := by
  have h0 := h.1
  have le := v.2.2.1
  have m0 := v.2.2.2.2.2.1.1
  obtain ⟨z, hz, ck, qo, kr⟩ := q_some h0 v.2.1
  intro d
  induction d with
  | zero =>
    intro i nf T h1 h2 F
    obtain ⟨nf, rfl⟩ : ∃ e, nf = e + 1 := ⟨nf - 1, by omega⟩
    have : i = (xD X V).length := by omega
    subst this
    have e : sI T (94 + 17) 0 = I ((xD X V).length : Nat) := ((F.2.2.2 111 (by decide) (by decide)).I 0).trans m0
    rw [F_X12_count_L126, e, if_pos (by rw [I_leN (by omega) (by omega)]; omega)]
    exact ⟨T, rfl, F⟩
  | succ d ih =>
    intro i nf T h1 h2 F
    obtain ⟨nf, rfl⟩ : ∃ e, nf = e + 1 := ⟨nf - 1, by omega⟩
    have e : sI T (94 + 17) 0 = I ((xD X V).length : Nat) := ((F.2.2.2 111 (by decide) (by decide)).I 0).trans m0
    have hi : (xD X V)[i]? = some ((xD X V)[i]'(by omega)) := List.getElem?_eq_getElem (by omega)
    generalize (xD X V)[i]'(by omega) = dd at hi
    obtain ⟨cc, en⟩ := enK_of v hi
    obtain ⟨U, u0, u1, u2⟩ := r_show (sh := sh) (f := f) (T := T) (z := z) hf v en (fun x a b => F.2.2.2 x (by omega) (by simp only [List.mem_cons, List.not_mem_nil, or_false]; omega)) ((F.R 5).trans (h0.2.2.2.1.1.trans hz)) ck qo (bkR_fr F (by decide) qo kr) ((F.I (by decide)).trans h40)
    have u0' : F_X12_shows sh f T 94 (94 + 17) (I i) = some U := u0
    have FU : fr [25, 26] [132, 133, 134, 135, 136] S U := F.trans (u2.mono (by decide) (by decide))
    obtain ⟨w', o', c'⟩ := (yHg_mem en.2.2.2.2.1).mp en.2.2.2.2.2.1
    have L12 := en.2.2.2.2.1.2.2.2.2.2.2.1
    have n6 := en.2.2.2.2.1.2.1
    have hV := v.1
    rw [F_X12_count_L126, e, if_neg (by rw [I_leN (by omega) (by omega)]; omega), u0', Option.bind_some]
    rcases hP with ⟨x5, rfl⟩ | ⟨x5, rfl⟩
    · have ih' := ih (i + 1) nf U (by omega) (by omega) FU
      rw [cnD_s hi] at ih'
      have q1 : sI U (94 + 17) 1 = I V := ((FU.2.2.2 111 (by decide) (by decide)).I 1).trans v.2.2.2.2.2.2.1
      rw [if_pos x5, r_inners hf en.2.2.2.2.1 w' c'.1 u1, Option.bind_some, q1]
      have zz : (I ((yL dd.2.1 / 2 : Nat) - (yN dd.2.1 : Int)) = I (V : Int) - 1) = (trB V dd = true) := by
        unfold trB
        rw [show (1 : Int32) = I 1 from rfl, I_sub, I_eq (by omega) (by omega), decide_eq_true_eq]
      simp only [zz]
      by_cases c : trB V dd = true
      · rw [if_pos c] at ih'
        rw [if_pos c]
        simp only [bnd, I_suc]
        exact ih'
      · rw [if_neg c] at ih'
        rw [if_neg c]
        simp only [bnd, I_suc]
        rw [show (0 : Int32) = I 0 from rfl, I_add, Int.add_zero]
        exact ih'
    · obtain ⟨W, c0, c1⟩ := r_cuts (sh := sh) (f := f) (S := U) hf en.2.2.2.2.1 w' c' u1
      have FW : fr [25, 26] [132, 133, 134, 135, 136] S W := FU.trans ((fr_of (by decide) c1).mono (by decide) (by decide))
      have ih' := ih (i + 1) nf W (by omega) (by omega) FW
      rw [cnD_s hi] at ih'
      have c2 := en.2.2.2.2.2.2.2.1.2.2.2.2.2.1
      rw [if_neg x5, c0, Option.bind_some, show (0 : Int32) = I ((0 : Nat) : Int) from rfl, ite_eqN (by omega) (by omega)]
      by_cases c : (cl dd.2.1 dd.2.2 (yL dd.2.1)).length = 0
      · rw [if_pos (show ncB dd = true from decide_eq_true c)] at ih'
        rw [if_pos c]
        simp only [bnd, I_suc]
        exact ih'
      · rw [if_neg (show ¬ ncB dd = true from fun h => c (of_decide_eq_true h))] at ih'
        rw [if_neg c]
        simp only [bnd, I_suc]
        rw [I_add, show ((0 : Nat) : Int) = 0 from rfl, Int.add_zero]
        exact ih'
theorem st_count (h : inv sh S p q w X) (hf : 1000 ≤ f) (x : Int32) : ∃ v S2, F_X8_count sh f S 0 x = some v ∧ F_X12_count sh f S 94 x = some (v, S2) ∧ inv sh S2 p q w X := by
  by_cases hx : (x = 3 ∨ x = 4 ∨ x = 5 ∨ x = 6) ∧ sI S 0 14 = 1
  · obtain ⟨xm, l⟩ := hx
    have h0 := h.1
    have li := h0.2.2.2.2.2.2.2.2.2.2
    obtain ⟨V, v⟩ := h.2.2 l
    have l18 : sI (uI S 94 0 0) 94 18 = 1 := by rw [sI_ne _ _ _ (by omega), li.1, l]
    have s17 := (v.2.2.2.1.1 v.2.2.1).2.1
    have s16 := v.2.2.2.2.1.1
    have m0 : sI (uI S 94 0 0) (94 + 17) 0 = I ((xD X V).length : Nat) := by rw [sI_row _ _ _ (by omega)]; exact v.2.2.2.2.2.1.1
    have m1 : sI (uI S 94 0 0) (94 + 17) 1 = I V := by rw [sI_row _ _ _ (by omega)]; exact v.2.2.2.2.2.2.1
    have hc : sR S 0 11 = some p.2.2.1 := h0.2.1.2.2.1
    have ck := (gp_sh h0).1
    have F0 : fr [0, 25, 26, 40] [132, 133, 134, 135, 136] S (uI (uI S 94 0 0) 94 40 (I V)) := (fr.rfl.uI _ (by decide)).uI _ (by decide)
    have h1 : inv sh (uI (uI S 94 0 0) 94 40 (I V)) p q w X := fr_inv h F0 (by decide) (by decide)
    have v1 : liV (uI (uI S 94 0 0) 94 40 (I V)) p.2.2.1 X V := liV_sm v rfl rfl rfl (fun x a b => by have := pg h0; exact (by repeat' (first | exact Sm.rfl | (refine Sm.uI ?_ (by omega)) | (refine Sm.uA ?_ (by omega)) | (refine Sm.uJ ?_ (by omega)) | (refine Sm.uL ?_ (by omega)) | (refine Sm.uR ?_ (by omega))))) (fun x a b => (by repeat' (first | exact Sm.rfl | (refine Sm.uI ?_ (by omega)) | (refine Sm.uA ?_ (by omega)) | (refine Sm.uJ ?_ (by omega)) | (refine Sm.uL ?_ (by omega)) | (refine Sm.uR ?_ (by omega)))))
    have ln : ¬ (1 : Int32) = 0 := by decide
    rcases xm with rfl | rfl | rfl | rfl
    · refine ⟨I ((xD X V).length : Nat), uI S 94 0 0, ?_, ?_, inv_u0 h 0⟩
      · simp only [F_X8_count, l, hc, Option.bind_some, if_pos ck, s17]
        rfl
      · simp only [F_X12_count, bnd, F_X12_in, l18, m0]
        rfl
    · refine ⟨I V, uI S 94 0 0, ?_, ?_, inv_u0 h 0⟩
      · simp only [F_X8_count, l, hc, Option.bind_some, if_pos ck, s16]
        rfl
      · simp only [F_X12_count, bnd, F_X12_in, l18, m1]
        rfl
    · obtain ⟨T, t0, t1⟩ := r_cnt126 (sh := sh) (f := f) (x := 5) h1 hf v1 (sI_self _ _ _ _) (trB V) (Or.inl ⟨rfl, rfl⟩) (xD X V).length 0 f _ (by omega) (by have := v.2.2.1; omega) fr.rfl
      have t0' : F_X12_count_L126 sh f 94 5 f (uI (uI S 94 0 0) 94 40 (I V)) 0 0 = _ := t0
      refine ⟨I (cnD (trB V) (xD X V) (xD X V).length : Nat), T, ?_, ?_, fr_inv h1 t1 (by decide) (by decide)⟩
      · simp only [F_X8_count, l, hc, Option.bind_some, if_pos ck, c_wl h hf v]
        rfl
      · simp only [F_X12_count, bnd, F_X12_in, l18, m1, t0']
        rfl
    · obtain ⟨T, t0, t1⟩ := r_cnt126 (sh := sh) (f := f) (x := 6) h1 hf v1 (sI_self _ _ _ _) ncB (Or.inr ⟨by decide, rfl⟩) (xD X V).length 0 f _ (by omega) (by have := v.2.2.1; omega) fr.rfl
      have t0' : F_X12_count_L126 sh f 94 6 f (uI (uI S 94 0 0) 94 40 (I V)) 0 0 = _ := t0
      refine ⟨I (cnD ncB (xD X V) (xD X V).length : Nat), T, ?_, ?_, fr_inv h1 t1 (by decide) (by decide)⟩
      · simp only [F_X8_count, l, hc, Option.bind_some, if_pos ck, c_wc h hf v]
        rfl
      · simp only [F_X12_count, bnd, F_X12_in, l18, m1, t0']
        rfl
  · obtain ⟨v, a, b, c⟩ := st_count0 (f := f) h.1 x hx
    exact ⟨v, uI S 94 0 0, a, b, inv_u0 h 0⟩
end AVa
