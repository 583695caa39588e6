/-! THE GALLERY: what has been listed. -/
abbrev Dw : Type := Nat × Ly × (Nat → Nat)
noncomputable def alN (Y : Ly) (ρ : Nat → Nat) : Nat := fxd (yF Y) (List.range (yL Y)) (yPP Y) (yG Y) ivp ρ * aF (yF Y) (List.range (yL Y)) ρ
def sgL (Y : Ly) (ρ : Nat → Nat) : Nat → List Nat → Int
  | 0, _ => 1
  | _ + 1, [] => 1
  | k + 1, i :: r => sgN Y i (ρ i) (mkb (inl r) (yL Y)) * sgL Y ρ k (r.erase (ρ i))
def sgR (Y : Ly) (ρ : Nat → Nat) : Int := sgL Y ρ (yL Y / 2) (List.range (yL Y))
/-- the i-th drawing is told, its cuts among the first m legs -/
def enC (S : St) (g i : Nat) (d : Dw) (m : Nat) : Prop := sL S (g + 1) i = J (e12 d.2.2) ∧ sA S (g + 2) i = I (alN d.2.1 d.2.2) ∧ sA S (g + 3) i = I (sgR d.2.1 d.2.2) ∧ sA S (g + 4) i = I d.1 ∧ sA S (g + 5) i = I (cl d.2.1 d.2.2 m).length ∧ (cl d.2.1 d.2.2 m).length ≤ 2 ∧ ∀ k, k < (cl d.2.1 d.2.2 m).length → sA S (g + 6) (2 * i + k) = I (sdN d.2.1 d.2.2 ((cl d.2.1 d.2.2 m).getD k 0)) ∧ sA S (g + 7) (2 * i + k) = I (onN d.2.1 d.2.2 ((cl d.2.1 d.2.2 m).getD k 0))
def GA (S : St) (g : Nat) (DL : List Dw) : Prop := (DL.length ≤ 200 → sI S g 19 = 0 ∧ sI S g 17 = I DL.length ∧ (∀ i d, DL[i]? = some d → enC S g i d (yL d.2.1)) ∧ ∀ d, d ∈ DL → sA S (g + 12) d.1 = I (hvN d.2.1 d.2.2 (yL d.2.1))) ∧ (200 < DL.length → sI S g 19 = 1 ∧ sI S g 17 = I 200)
theorem enC_cg {S S' : St} {g i m : Nat} {d : Dw} (h : enC S g i d m) (a1 : sL S' (g + 1) i = sL S (g + 1) i) (a2 : ∀ c, 2 ≤ c → c ≤ 5 → sA S' (g + c) i = sA S (g + c) i) (a3 : ∀ k, k < 2 → sA S' (g + 6) (2 * i + k) = sA S (g + 6) (2 * i + k) ∧ sA S' (g + 7) (2 * i + k) = sA S (g + 7) (2 * i + k)) : enC S' g i d m := by
  obtain ⟨h1, h2, h3, h4, h5, h6, h7⟩ := h
  refine ⟨a1.trans h1, (a2 2 (by omega) (by omega)).trans h2, (a2 3 (by omega) (by omega)).trans h3, (a2 4 (by omega) (by omega)).trans h4, (a2 5 (by omega) (by omega)).trans h5, h6, fun k hk => ?_⟩
  obtain ⟨b1, b2⟩ := a3 k (by omega)
  exact ⟨b1.trans (h7 k hk).1, b2.trans (h7 k hk).2⟩
theorem GA_sm {S S' : St} {g : Nat} {DL : List Dw} (h : GA S g DL) (fr : ∀ x, g ≤ x → x ≤ g + 12 → Sm S S' x) : GA S' g DL := by
  have g0 := fr g (by omega) (by omega)
  refine ⟨fun hl => ?_, fun hl => ?_⟩
  · obtain ⟨a, b, c, d⟩ := h.1 hl
    refine ⟨(g0.I 19).trans a, (g0.I 17).trans b, fun i e he => ?_, fun e he => ((fr (g + 12) (by omega) (by omega)).A _).trans (d e he)⟩
    exact enC_cg (c i e he) ((fr (g + 1) (by omega) (by omega)).L i) (fun x h1 h2 => (fr (g + x) (by omega) (by omega)).A i) (fun k _ => ⟨(fr (g + 6) (by omega) (by omega)).A _, (fr (g + 7) (by omega) (by omega)).A _⟩)
  · obtain ⟨a, b⟩ := h.2 hl
    exact ⟨(g0.I 19).trans a, (g0.I 17).trans b⟩
section P9p
variable {sh : List Sh} {f : Nat} {S : St} {g : Nat} {Y : Ly} {ρ : Nat → Nat}
theorem c_add {n gi : Nat} (h17 : sI S g 17 = I n) (hn : n < 200) (h18 : sI S g 18 = I ((gi + 1 : Nat) : Int)) (hg : gi < 20) (r : Int64) (al sg : Int32) : ∃ S', F_X3_add sh f S g r al sg = some S' ∧ sI S' g 17 = I ((n + 1 : Nat) : Int) ∧ (∀ j, j ≠ 17 → sI S' g j = sI S g j) ∧ (∀ i, sL S' (g + 1) i = up1 (sL S (g + 1)) n r i) ∧ (∀ i, sA S' (g + 2) i = up1 (sA S (g + 2)) n al i) ∧ (∀ i, sA S' (g + 3) i = up1 (sA S (g + 3)) n sg i) ∧ (∀ i, sA S' (g + 4) i = up1 (sA S (g + 4)) n (I gi) i) ∧ (∀ i, sA S' (g + 5) i = up1 (sA S (g + 5)) n 0 i) ∧ ∀ x, x < g ∨ g + 5 < x → Sm S S' x := by
  have ncl : (I (n : Int)).toNatClampNeg = n := I_clN (by omega)
  have c1 : ¬ (200 : Int32) ≤ I n := by
    rw [show (200 : Int32) = I ((200 : Nat) : Int) from rfl, I_leN (by omega) (by omega)]; omega
  have c2 : ¬ I ((gi + 1 : Nat) : Int) = 0 := by
    rw [show (0 : Int32) = I ((0 : Nat) : Int) from rfl, I_eqN (by omega) (by omega)]; omega
  have gm : I ((gi + 1 : Nat) : Int) - 1 = I gi := by
    rw [show (1 : Int32) = I 1 from rfl, I_sub]; congr 1; omega
  unfold F_X3_add
  simp only [sI_uL, sI_uA, h17, h18, ncl, bnd, if_neg c1, if_neg c2, if_neg (I_bnd (show n < 200 by omega) (by omega)), gm, I_suc]
  refine ⟨_, rfl, sI_self _ _ _ _, fun j hj => by rw [sI_ne _ _ _ hj]; rfl, fun i => ?_, fun i => ?_, fun i => ?_, fun i => ?_, fun i => ?_, fun x hx => ?_⟩
  · show sL (uL S (g + 1) n r) (g + 1) i = _
    rw [sL_uL, if_pos rfl]
  · show sA (uA (uA (uA (uA (uL S (g + 1) n r) (g + 2) n al) (g + 3) n sg) (g + 4) n (I gi)) (g + 5) n 0) (g + 2) i = _
    rw [sA_row _ _ _ (by omega), sA_row _ _ _ (by omega), sA_row _ _ _ (by omega), sA_uA, if_pos rfl]
    rfl
  · show sA (uA (uA (uA (uA (uL S (g + 1) n r) (g + 2) n al) (g + 3) n sg) (g + 4) n (I gi)) (g + 5) n 0) (g + 3) i = _
    rw [sA_row _ _ _ (by omega), sA_row _ _ _ (by omega), sA_uA, if_pos rfl, sA_row _ _ _ (by omega)]
    rfl
  · show sA (uA (uA (uA (uA (uL S (g + 1) n r) (g + 2) n al) (g + 3) n sg) (g + 4) n (I gi)) (g + 5) n 0) (g + 4) i = _
    rw [sA_row _ _ _ (by omega), sA_uA, if_pos rfl, sA_row _ _ _ (by omega), sA_row _ _ _ (by omega)]
    rfl
  · show sA (uA (uA (uA (uA (uL S (g + 1) n r) (g + 2) n al) (g + 3) n sg) (g + 4) n (I gi)) (g + 5) n 0) (g + 5) i = _
    rw [sA_uA, if_pos rfl, sA_row _ _ _ (by omega), sA_row _ _ _ (by omega), sA_row _ _ _ (by omega)]
    rfl
  · exact (by repeat' (first | exact Sm.rfl | (refine Sm.uI ?_ (by omega)) | (refine Sm.uA ?_ (by omega)) | (refine Sm.uJ ?_ (by omega)) | (refine Sm.uL ?_ (by omega)) | (refine Sm.uR ?_ (by omega))))
theorem c_add2 (h17 : sI S g 17 = I 200) (r : Int64) (al sg : Int32) : F_X3_add sh f S g r al sg = some (uI S g 19 1) := by
  unfold F_X3_add
  rw [h17, if_pos (by decide)]
  rfl
theorem c_setHeavies {gi : Nat} (h18 : sI S g 18 = I ((gi + 1 : Nat) : Int)) (hg : gi < 20) (v : Int32) : F_X3_setHeavies sh f S g v = some (uA S (g + 12) gi v) := by
  have c2 : ¬ I ((gi + 1 : Nat) : Int) ≤ 0 := by
    rw [show (0 : Int32) = I ((0 : Nat) : Int) from rfl, I_leN (by omega) (by omega)]; omega
  have gm : I ((gi + 1 : Nat) : Int) - 1 = I gi := by
    rw [show (1 : Int32) = I 1 from rfl, I_sub]; congr 1; omega
  have gcl : (I (gi : Int)).toNatClampNeg = gi := I_clN (by omega)
  unfold F_X3_setHeavies
  simp only [h18, if_neg c2, gm, gcl, if_neg (I_bnd hg (by omega)), bnd]
theorem c_addCut {n c : Nat} (h17 : sI S g 17 = I ((n + 1 : Nat) : Int)) (hn : n < 200) (h5 : sA S (g + 5) n = I c) (hc : c < 2) (v u : Int32) : F_X3_addCut sh f S g v u = some (uA (uA (uA S (g + 6) (2 * n + c) v) (g + 7) (2 * n + c) u) (g + 5) n (I ((c + 1 : Nat) : Int))) := by
  have c2 : ¬ I ((n + 1 : Nat) : Int) ≤ 0 := by
    rw [show (0 : Int32) = I ((0 : Nat) : Int) from rfl, I_leN (by omega) (by omega)]; omega
  have nm1 : I ((n + 1 : Nat) : Int) - 1 = I n := by
    rw [show (1 : Int32) = I 1 from rfl, I_sub]; congr 1; omega
  have ncl : (I (n : Int)).toNatClampNeg = n := I_clN (by omega)
  have c3 : ¬ (2 : Int32) ≤ I c := by
    rw [show (2 : Int32) = I ((2 : Nat) : Int) from rfl, I_leN (by omega) (by omega)]; omega
  have ix : (I (n : Int) * 2) + I (c : Int) = I ((2 * n + c : Nat) : Int) := by
    rw [show (2 : Int32) = I 2 from rfl, I_mul, I_add]; congr 1; omega
  have icl : (I ((2 * n + c : Nat) : Int)).toNatClampNeg = 2 * n + c := I_clN (by omega)
  have e5 : sA (uA (uA S (g + 6) (2 * n + c) v) (g + 7) (2 * n + c) u) (g + 5) n = I c := by
    rw [sA_row _ _ _ (by omega), sA_row _ _ _ (by omega), h5]
  unfold F_X3_addCut
  simp only [sI_uA, h17, if_neg c2, nm1, ncl, if_neg (I_bnd hn (by omega)), h5, if_neg c3, ix, icl, if_neg (I_bnd (show 2 * n + c < 400 by omega) (by omega)), bnd, e5, I_suc]
theorem getD_last (l : List Nat) (x : Nat) : (l ++ [x]).getD l.length 0 = x := by
  simp
theorem getD_pre (l : List Nat) (x : Nat) {k : Nat} (h : k < l.length) : (l ++ [x]).getD k 0 = l.getD k 0 := by
  rw [List.getD_eq_getElem?_getD, List.getD_eq_getElem?_getD, List.getElem?_append_left h]
/-- what find cuts leaves: the n-th drawing with all its cuts -/
theorem c_findCuts (hf : 1000 ≤ f) (h : lyC S 14 Y) (ok : yOk Y) (w : yRw Y ρ) (hg : hgP Y ρ) (hG : g = 23 ∨ g = 71) (r2 : sR S 13 2 = some g) (ck : ckX3 sh g = true) {n gi : Nat} (hn : n < 200) (h17 : sI S g 17 = I ((n + 1 : Nat) : Int)) (h5 : enC S g n (gi, Y, ρ) 0) : ∃ S', F_X5_findCuts sh f S 13 (J (e12 ρ)) (I (lkM Y ρ (yL Y))) = some S' ∧ enC S' g n (gi, Y, ρ) (yL Y) ∧ (∀ x, x < g + 5 ∨ g + 7 < x → Sm S S' x) ∧ (∀ i, i ≠ n → sA S' (g + 5) i = sA S (g + 5) i ∧ ∀ k, k < 2 → sA S' (g + 6) (2 * i + k) = sA S (g + 6) (2 * i + k) ∧ sA S' (g + 7) (2 * i + k) = sA S (g + 7) (2 * i + k)) := by
  have L12 := ok.2.2.2.2.2.2.1
  have nl := N_le ok
  have hr : ∀ i, i < yL Y → ρ i < yL Y := fun i hi => (yRw_lt w hi).1
  have len2 := cl_len ok w hg
  have M8 := lkM_lt (Y := Y) (ρ := ρ) (yL Y)
  have D8 := mkb_lt (twB Y ρ (yL Y)) 3
  have lp : ∀ (d i nf : Nat) (T : St), i + d = yL Y → d < nf → yN Y ≤ i → enC T g n (gi, Y, ρ) i → (∀ x, x < g + 5 ∨ g + 7 < x → Sm S T x) → (∀ i, i ≠ n → sA T (g + 5) i = sA S (g + 5) i ∧ ∀ k, k < 2 → sA T (g + 6) (2 * i + k) = sA S (g + 6) (2 * i + k) ∧ sA T (g + 7) (2 * i + k) = sA S (g + 7) (2 * i + k)) → ∃ S', F_X5_findCuts_L16 sh f 13 (J (e12 ρ)) (I (lkM Y ρ (yL Y))) nf T (I (mkb (twB Y ρ (yL Y)) 3)) (I i) = some S' ∧ enC S' g n (gi, Y, ρ) (yL Y) ∧ (∀ x, x < g + 5 ∨ g + 7 < x → Sm S S' x) ∧ (∀ i, i ≠ n → sA S' (g + 5) i = sA S (g + 5) i ∧ ∀ k, k < 2 → sA S' (g + 6) (2 * i + k) = sA S (g + 6) (2 * i + k) ∧ sA S' (g + 7) (2 * i + k) = sA S (g + 7) (2 * i + k)) := by
    intro d
    induction d with
    | zero =>
      intro i nf T h1 h2 h3 en fr oth
      obtain ⟨nf, rfl⟩ : ∃ e, nf = e + 1 := ⟨nf - 1, by omega⟩
      have : i = yL Y := by omega
      subst this
      have lT := lyC_sm h (S' := T) (fun x _ _ => fr x (by omega))
      refine ⟨T, ?_, en, fr, oth⟩
      rw [F_X5_findCuts_L16]
      simp only [Nat.reduceAdd, lT.2.2.1]
      rw [if_pos (by rw [I_leN (by omega) (by omega)]; omega)]
    | succ d ih =>
      intro i nf T h1 h2 h3 en fr oth
      obtain ⟨nf, rfl⟩ : ∃ e, nf = e + 1 := ⟨nf - 1, by omega⟩
      have lT := lyC_sm h (S' := T) (fun x _ _ => fr x (by omega))
      have hi : i < yL Y := by omega
      have ri := hr i hi
      have c1 : ¬ I (yL Y : Int) ≤ I i := by rw [I_leN (by omega) (by omega)]; omega
      have lk8 := lkN_lt Y i (ρ i)
      have q1 : (I (ρ i : Int) ≤ I i) = (ρ i ≤ i) := I_leN (by omega) (by omega)
      have q2 : (I (lkN Y i (ρ i) : Int) = 0) = (lkN Y i (ρ i) = 0) := by
        rw [show (0 : Int32) = I ((0 : Nat) : Int) from rfl, I_eqN (by omega) (by omega)]
      have al : mkb (twB Y ρ (yL Y)) 3 &&& lkN Y i (ρ i) < 8 := Nat.lt_of_le_of_lt Nat.and_le_left D8
      have q3 : (I (mkb (twB Y ρ (yL Y)) 3 : Int) &&& I (lkN Y i (ρ i) : Int) = 0) = (mkb (twB Y ρ (yL Y)) 3 &&& lkN Y i (ρ i) = 0) := by
        rw [I_and (by omega) (by omega), show (0 : Int32) = I ((0 : Nat) : Int) from rfl, I_eqN (by omega) (by omega)]
      have no : cutB Y ρ i = false → ∃ S', F_X5_findCuts_L16 sh f 13 (J (e12 ρ)) (I (lkM Y ρ (yL Y))) nf T (I (mkb (twB Y ρ (yL Y)) 3)) (I ((i + 1 : Nat) : Int)) = some S' ∧ enC S' g n (gi, Y, ρ) (yL Y) ∧ (∀ x, x < g + 5 ∨ g + 7 < x → Sm S S' x) ∧ (∀ i, i ≠ n → sA S' (g + 5) i = sA S (g + 5) i ∧ ∀ k, k < 2 → sA S' (g + 6) (2 * i + k) = sA S (g + 6) (2 * i + k) ∧ sA S' (g + 7) (2 * i + k) = sA S (g + 7) (2 * i + k)) := by
        intro cb
        refine ih (i + 1) nf T (by omega) (by omega) (by omega) ?_ fr oth
        have e : cl Y ρ (i + 1) = cl Y ρ i := by rw [cl_s, cb]; simp
        unfold enC at en ⊢
        simp only at en ⊢
        rw [e]
        exact en
      rw [F_X5_findCuts_L16]
      simp only [Nat.reduceAdd, lT.2.2.1, if_neg c1]
      rw [c_partnerIn (by omega), Option.bind_some, zz_row L12 hr hi, c_link lT ok hi ri, Option.bind_some]
      simp only [q1, q2, q3, bnd, I_suc]
      by_cases g1 : ρ i ≤ i
      · rw [if_pos g1]
        exact no (decide_eq_false (by omega))
      · rw [if_neg g1]
        by_cases g2 : lkN Y i (ρ i) = 0
        · rw [if_pos g2]
          apply no
          apply eq_false_of_ne_true
          intro cb
          obtain ⟨k, k3, ek, _⟩ := cut_k ok w hg hi cb
          have := Nat.two_pow_pos k
          omega
        · rw [if_neg g2]
          obtain ⟨k, k3, ek⟩ := (lkN_p Y i (ρ i)).resolve_left g2
          have tw : (mkb (twB Y ρ (yL Y)) 3 &&& lkN Y i (ρ i) = 0) = (twB Y ρ (yL Y) k = false) := by
            apply propext
            constructor
            · intro z
              have := congrArg (fun a => a.testBit k) z
              simp only [Nat.testBit_and, mkb_tb, ek, Nat.testBit_two_pow_self, decide_eq_true k3, Bool.true_and, Bool.and_true, Nat.zero_testBit] at this
              exact this
            · intro z
              apply Nat.eq_of_testBit_eq
              intro j
              rw [Nat.testBit_and, mkb_tb, ek, Nat.testBit_two_pow, Nat.zero_testBit]
              by_cases e : k = j
              · subst e
                rw [z, Bool.and_false, Bool.false_and]
              · rw [decide_eq_false e, Bool.and_false]
          simp only [tw]
          by_cases g3 : twB Y ρ (yL Y) k = false
          · rw [if_pos g3]
            have less := lkW_less w hi (show i < ρ i by omega) k3 ek g3
            have W8 := lkW_lt (Y := Y) (ρ := ρ) i
            have am : I (lkM Y ρ (yL Y) : Int) &&& (I (lkN Y i (ρ i) : Int) ^^^ (-1)) = I (lkW Y ρ i : Int) := by
              rw [I_andn (by omega) (by omega), ← less]
            rw [am, c_hangs lT ok W8, Option.bind_some]
            by_cases g4 : yV Y ≤ popN 12 (lkW Y ρ i) + 1
            · rw [if_pos g4, if_neg (by decide)]
              exact no (decide_eq_false (by omega))
            · have cb : cutB Y ρ i = true := decide_eq_true ⟨h3, by omega, by omega⟩
              have R8 : rcN (lkW Y ρ i) (pB Y (ρ 0)) < 8 := rcN_lt (pB_lt Y (ρ 0))
              have B8 := pB_lt Y i
              have a8 : rcN (lkW Y ρ i) (pB Y (ρ 0)) &&& pB Y i < 8 := Nat.lt_of_le_of_lt Nat.and_le_left R8
              have q4 : (I (rcN (lkW Y ρ i) (pB Y (ρ 0)) : Int) &&& I (pB Y i : Int) = 0) = (rcN (lkW Y ρ i) (pB Y (ρ 0)) &&& pB Y i = 0) := by
                rw [I_and (by omega) (by omega), show (0 : Int32) = I ((0 : Nat) : Int) from rfl, I_eqN (by omega) (by omega)]
              rw [if_neg g4, if_pos rfl, c_reach hf lT ok hr W8, Option.bind_some, c_pointBit lT ok hi, Option.bind_some]
              simp only [q4]
              have cls : cl Y ρ (i + 1) = cl Y ρ i ++ [i] := by rw [cl_s, if_pos cb]
              have lc : (cl Y ρ i).length < 2 := by
                have := cl_pre (Y := Y) (ρ := ρ) (i + 1) (yL Y - (i + 1))
                rw [show i + 1 + (yL Y - (i + 1)) = yL Y by omega, cls, List.length_append, List.length_singleton] at this
                omega
              have T17 : sI T g 17 = I ((n + 1 : Nat) : Int) := ((fr g (by omega)).I 17).trans h17
              have T2 : sR T 13 2 = some g := ((fr 13 (by omega)).R 2).trans r2
              have tail : ∀ v : Nat, v < yL Y → yK Y v = onN Y ρ i → ∃ S', F_X5_findCuts_L120 sh f 13 (J (e12 ρ)) (I (lkM Y ρ (yL Y))) (F_X5_findCuts_L16 sh f 13 (J (e12 ρ)) (I (lkM Y ρ (yL Y))) nf) T (I (mkb (twB Y ρ (yL Y)) 3)) (I i) (I (rcN (lkW Y ρ i) (pB Y (ρ 0)))) (I v) = some S' ∧ enC S' g n (gi, Y, ρ) (yL Y) ∧ (∀ x, x < g + 5 ∨ g + 7 < x → Sm S S' x) ∧ (∀ i, i ≠ n → sA S' (g + 5) i = sA S (g + 5) i ∧ ∀ k, k < 2 → sA S' (g + 6) (2 * i + k) = sA S (g + 6) (2 * i + k) ∧ sA S' (g + 7) (2 * i + k) = sA S (g + 7) (2 * i + k)) := by
                intro v hv kv
                have vcl : (I (v : Int)).toNatClampNeg = v := I_clN (by omega)
                unfold F_X5_findCuts_L120
                rw [T2, Option.bind_some, if_pos ck, c_endsAt hf lT ok hr R8, Option.bind_some, vcl, if_neg (I_bnd (show v < 12 by omega) (by omega)), (lT.2.2.2.2.2.2.1 v hv).1, kv, c_addCut T17 hn en.2.2.2.2.1 lc, Option.bind_some]
                simp only [bnd, I_suc]
                generalize hU : uA (uA (uA T (g + 6) (2 * n + (cl Y ρ i).length) (I (edN Y ρ (rcN (lkW Y ρ i) (pB Y (ρ 0)))))) (g + 7) (2 * n + (cl Y ρ i).length) (I (onN Y ρ i))) (g + 5) n (I (((cl Y ρ i).length + 1 : Nat) : Int)) = U
                have u5 : ∀ x, sA U (g + 5) x = up1 (sA T (g + 5)) n (I (((cl Y ρ i).length + 1 : Nat) : Int)) x := by
                  intro x
                  rw [← hU, sA_uA, if_pos rfl, sA_row _ _ _ (by omega), sA_row _ _ _ (by omega)]
                have u6 : ∀ x, sA U (g + 6) x = up1 (sA T (g + 6)) (2 * n + (cl Y ρ i).length) (I (sdN Y ρ i)) x := by
                  intro x
                  rw [← hU, sA_row _ _ _ (by omega), sA_row _ _ _ (by omega), sA_uA, if_pos rfl]
                  rfl
                have u7 : ∀ x, sA U (g + 7) x = up1 (sA T (g + 7)) (2 * n + (cl Y ρ i).length) (I (onN Y ρ i)) x := by
                  intro x
                  rw [← hU, sA_row _ _ _ (by omega), sA_uA, if_pos rfl, sA_row _ _ _ (by omega)]
                have uf : ∀ x, x < g + 5 ∨ g + 7 < x → Sm T U x := by
                  intro x hx
                  rw [← hU]
                  exact (by repeat' (first | exact Sm.rfl | (refine Sm.uI ?_ (by omega)) | (refine Sm.uA ?_ (by omega)) | (refine Sm.uJ ?_ (by omega)) | (refine Sm.uL ?_ (by omega)) | (refine Sm.uR ?_ (by omega))))
                refine ih (i + 1) nf U (by omega) (by omega) (by omega) ?_ (fun x hx => (fr x hx).trans (uf x hx)) ?_
                · obtain ⟨e1, e2, e3, e4, e5, e6, e7⟩ := en
                  simp only at e1 e2 e3 e4 e5 e6 e7
                  unfold enC
                  simp only
                  rw [cls, List.length_append, List.length_singleton]
                  refine ⟨((uf (g + 1) (by omega)).L n).trans e1, ((uf (g + 2) (by omega)).A n).trans e2, ((uf (g + 3) (by omega)).A n).trans e3, ((uf (g + 4) (by omega)).A n).trans e4, by rw [u5, up1_self], by omega, fun k hk => ?_⟩
                  rw [u6, u7, up1_if, up1_if]
                  by_cases gk : k = (cl Y ρ i).length
                  · rw [gk, if_pos rfl, if_pos rfl, getD_last]
                    exact ⟨rfl, rfl⟩
                  · rw [if_neg (by omega), if_neg (by omega), getD_pre _ _ (by omega)]
                    exact e7 k (by omega)
                · intro j hj
                  obtain ⟨o1, o2⟩ := oth j hj
                  refine ⟨by rw [u5, up1_ne _ _ hj]; exact o1, fun k hk => ?_⟩
                  rw [u6, u7, up1_ne _ _ (by omega), up1_ne _ _ (by omega)]
                  exact o2 k hk
              by_cases g5 : rcN (lkW Y ρ i) (pB Y (ρ 0)) &&& pB Y i = 0
              · rw [if_pos g5]
                exact tail (ρ i) ri (by unfold onN; rw [if_pos g5])
              · rw [if_neg g5]
                exact tail i hi (by unfold onN; rw [if_neg g5])
          · rw [if_neg g3]
            apply no
            apply eq_false_of_ne_true
            intro cb
            obtain ⟨k', k3', ek', t', _⟩ := cut_k ok w hg hi cb
            rw [ek] at ek'
            have := p2_inj ek'
            subst this
            exact g3 t'
  unfold F_X5_findCuts
  rw [c_doubled hf h ok hr, Option.bind_some]
  simp only [bnd, Nat.reduceAdd, h.2.1]
  refine lp (yL Y - yN Y) (yN Y) f S (by omega) (by omega) (Nat.le_refl _) ?_ (fun x _ => Sm.rfl) (fun i _ => ⟨rfl, fun k _ => ⟨rfl, rfl⟩⟩)
  have e : cl Y ρ (yN Y) = cl Y ρ 0 := by rw [cl_N _ (Nat.le_refl _), cl_N _ (Nat.zero_le _)]
  unfold enC at h5 ⊢
  simp only at h5 ⊢
  rw [e]
  exact h5
end P9p
