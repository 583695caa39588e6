section ATa
variable {sh : List Sh} {S : St} {p : PC} {q : Option Nat} {w : Nat} {X : NS} {f : Nat}
theorem r_common {a b : Nat} (hf : 1000 ≤ f) (ha : 1 ≤ a ∧ a < 2147483648) (hb : b < 2147483648) (dv : b % a = 0) : F_X12_common sh f S (I a) (I b) = some (I a) := by
  obtain ⟨f, rfl⟩ : ∃ e, f = e + 2 := ⟨f - 2, by omega⟩
  have e : I (b : Int) - I (b : Int) / I (a : Int) * I (a : Int) = (0 : Int32) := by
    rw [I_div (by omega) (by omega), I_mul, I_sub, show (0 : Int32) = I 0 from rfl]
    congr 1
    have := Int.emod_def (b : Int) (a : Int)
    have h2 : (b : Int) % (a : Int) = 0 := by omega
    rw [Int.mul_comm] at this
    omega
  unfold F_X12_common
  rw [F_X12_common_L4, if_neg (by rw [show (0 : Int32) = I ((0 : Nat) : Int) from rfl, I_leN (by omega) (by omega)]; omega), if_neg (by rw [show (0 : Int32) = I ((0 : Nat) : Int) from rfl, I_eqN (by omega) (by omega)]; omega), e]
  simp only [bnd]
  rw [F_X12_common_L4, if_pos (by decide)]
/-- the state of the reference that an entry is shown from -/
theorem st_show {V i cc : Nat} {d : Dw} {v0 : Int32} (h : inv sh S p q w X) (hf : 1000 ≤ f) (v : liV S p.2.2.1 X V) (e : enK S p.2.2.1 X V i d cc) : ∃ z T, F_X12_shows sh f (uI (uI S 94 0 v0) 94 40 (I V)) 94 111 (I i) = some T ∧ shC sh T d.2.1 d.2.2 z ∧ inv sh T p q w X ∧ (∀ x, 111 ≤ x → x ≤ 117 → Sm S T x) ∧ sI T 94 0 = v0 ∧ fr [0, 25, 26, 40] [132, 133, 134, 135] S T := by
  have h0 := h.1
  obtain ⟨z, hz, ck, qo, kr⟩ := q_some h0 v.2.1
  have F0 : fr [0, 25, 26, 40] [132, 133, 134, 135] S (uI (uI S 94 0 v0) 94 40 (I V)) := (fr.rfl.uI _ (by decide)).uI _ (by decide)
  obtain ⟨T, t0, t1, t2⟩ := r_show (sh := sh) (f := f) (T := uI (uI S 94 0 v0) 94 40 (I V)) (z := z) hf v e (fun x a b => (by repeat' (first | exact Sm.rfl | (refine Sm.uI ?_ (by omega)) | (refine Sm.uA ?_ (by omega)) | (refine Sm.uJ ?_ (by omega)) | (refine Sm.uL ?_ (by omega)) | (refine Sm.uR ?_ (by omega))))) (h0.2.2.2.1.1.trans hz) ck qo (bkR_fr F0 (by decide) qo kr) (sI_self _ _ _ _)
  have F := F0.trans (t2.mono (by decide) (by decide))
  refine ⟨z, T, t0, t1, fr_inv h F (by decide) (by decide), fun x a b => F.2.2.2 x (by omega) (by simp only [List.mem_cons, List.not_mem_nil, or_false]; omega), ?_, F⟩
  rw [t2.I (by decide), sI_ne _ _ _ (by omega), sI_self]
theorem inv_136 {T T' : St} (h : inv sh T p q w X) (k : ∀ x, x ≠ 136 → Sm T T' x) : inv sh T' p q w X := inv_rd h (fun j _ _ => (k 94 (by omega)).I j) (k 94 (by omega)).2.2.2.1 (fun j => (k 94 (by omega)).R j) (fun x a b => k x (by omega))
theorem st_drawing (h : inv sh S p q w X) (hf : 1000 ≤ f) (x y : Int32) : ∃ v S2, F_X8_drawing sh f S 0 x y = some v ∧ F_X12_drawing sh f S 94 x y = some (v, S2) ∧ inv sh S2 p q w X := by
  have h0 := h.1
  have u18 : sI (uI S 94 0 0) 94 18 = sI S 94 18 := sI_ne _ _ _ (by omega)
  have u111 : Sm S (uI S 94 0 0) 111 := (by repeat' (first | exact Sm.rfl | (refine Sm.uI ?_ (by omega)) | (refine Sm.uA ?_ (by omega)) | (refine Sm.uJ ?_ (by omega)) | (refine Sm.uL ?_ (by omega)) | (refine Sm.uR ?_ (by omega))))
  unfold F_X8_drawing F_X12_drawing
  simp only [bnd]
  rcases st_ix (f := f) h x with ⟨a, b⟩ | ⟨V, i, d, l, v, rfl, hi, a, b⟩
  · rw [a, b _ u18 u111, Option.bind_some, Option.bind_some, if_pos rfl, if_pos rfl]
    exact ⟨_, _, rfl, rfl, inv_u0 h 0⟩
  · obtain ⟨cc, e⟩ := enK_of v hi
    obtain ⟨z, T, t0, t1, iT, tk, _, _⟩ := st_show (sh := sh) (v0 := 0) h hf v e
    have cw := c_ways (sh := sh) (f := f) e
    have clo := c_loops (sh := sh) (f := f) e
    obtain ⟨e1, e2, e3, e4, e5, e6, e7, e8, e9, e10, e11, eH⟩ := e
    obtain ⟨w', o', c'⟩ := (yHg_mem e5).mp e6
    obtain ⟨b1, b2, b3, b4⟩ := obal_b e5 w'
    have nb := yNa_b e5
    have oa := ob_al e5 w'
    have yv : yV d.2.1 = V := by rw [e4]; rfl
    have o1 : sI (uI S 94 0 0) (94 + 17) 1 = I V := by rw [sI_row _ _ _ (by omega)]; exact v.2.2.2.2.2.2.1
    have t0' : F_X12_shows sh f (uI (uI S 94 0 0) 94 40 (I V)) 94 (94 + 17) (I i) = some T := t0
    have q4 : sA T (94 + 17 + 4) i = I (obN d.2.1 d.2.2) := ((tk 115 (by omega) (by omega)).A i).trans e11.2.2.2
    have q5 : sA T (94 + 17 + 5) i = I (yNa d.2.1) := ((tk 116 (by omega) (by omega)).A i).trans e11.2.2.1
    have q1 : sI T (94 + 17) 1 = I V := ((tk 111 (by omega) (by omega)).I 1).trans v.2.2.2.2.2.2.1
    have cm := r_common (sh := sh) (f := f) (S := T) (a := obN d.2.1 d.2.2) (b := yNa d.2.1) hf (by omega) (by omega) (by rw [← oa]; exact Nat.mul_mod_right _ _)
    have nbi : ¬ (I (i : Int) < 0 ∨ 200 ≤ i) := I_bnd e1 (by omega)
    have g0 : ¬ I (obN d.2.1 d.2.2 : Int) = (0 : Int32) := by
      rw [show (0 : Int32) = I ((0 : Nat) : Int) from rfl, I_eqN (by omega) (by omega)]
      omega
    rw [a, b _ u18 u111, Option.bind_some, Option.bind_some, if_neg (show ¬ (1 : Int32) = 0 by decide), if_neg (show ¬ (1 : Int32) = 0 by decide), h0.2.1.2.2.1, Option.bind_some, if_pos (gp_sh h0).1, o1, t0', Option.bind_some, I_clN (by omega), if_neg nbi, if_neg nbi, q4, q5, cm, Option.bind_some]
    unfold F_X3_ofDrawing
    rw [I_clN (show i < _ by omega)]
    by_cases y0 : y = 0
    · simp only [if_pos y0, if_neg nbi, if_neg g0, Option.bind_some]
      refine ⟨_, _, rfl, ?_, iT⟩
      rw [I_div (by omega) (by omega), Int.ediv_self (by omega)]
      rfl
    · by_cases y1 : y = 1
      · simp only [if_neg y0, if_pos y1, if_neg nbi, if_neg g0, Option.bind_some]
        refine ⟨_, _, rfl, ?_, iT⟩
        have ea : sA S (p.2.2.1 + 2) i = I (alN d.2.1 d.2.2) := e8.2.1
        rw [ea, I_div (by omega) (by omega), ← oa]
        congr 3
        rw [show ((obN d.2.1 d.2.2 * alN d.2.1 d.2.2 : Nat) : Int) = (obN d.2.1 d.2.2 : Int) * (alN d.2.1 d.2.2 : Int) by norm_cast, Int.mul_ediv_cancel_left _ (by omega)]
      · by_cases y2 : y = 2
        · have sg := r_signHere (sh := sh) (f := f) (S := T) hf e5 w' t1
          have es : sA S (p.2.2.1 + 3) i = I (sgR d.2.1 d.2.2) := e8.2.2.1
          simp only [if_neg y0, if_neg y1, if_pos y2, if_neg nbi, Option.bind_some, sg, es]
          exact ⟨_, _, rfl, rfl, iT⟩
        · have inn := r_inners (sh := sh) (f := f) (S := T) hf e5 w' c'.1 t1
          by_cases y3 : y = 3
          · simp only [if_neg y0, if_neg y1, if_neg y2, if_pos y3, Option.bind_some, inn, clo, q1]
            refine ⟨_, _, rfl, ?_, iT⟩
            rw [I_sub, show (1 : Int32) = I 1 from rfl, I_add]
          · by_cases y4 : y = 4
            · obtain ⟨T', c0, c1⟩ := r_cuts (sh := sh) (f := f) (S := T) hf e5 w' c' t1
              have ec : sA S (p.2.2.1 + 5) i = I (cl d.2.1 d.2.2 (yL d.2.1)).length := e8.2.2.2.2.1
              simp only [if_neg y0, if_neg y1, if_neg y2, if_neg y3, if_pos y4, if_neg nbi, Option.bind_some, c0, ec]
              exact ⟨_, _, rfl, rfl, inv_136 iT c1⟩
            · by_cases y5 : y = 5
              · simp only [if_neg y0, if_neg y1, if_neg y2, if_neg y3, if_neg y4, if_pos y5, if_neg nbi, Option.bind_some, cw]
                exact ⟨_, _, rfl, rfl, iT⟩
              · by_cases y6 : y = 6
                · have e4' : sA S (p.2.2.1 + 4) i = I d.1 := e8.2.2.2.1
                  have dcl : (I (d.1 : Int)).toNatClampNeg = d.1 := I_clN (by omega)
                  have nbd : ¬ (I (d.1 : Int) < 0 ∨ 20 ≤ d.1) := I_bnd e2 (by omega)
                  simp only [if_neg y0, if_neg y1, if_neg y2, if_neg y3, if_neg y4, if_neg y5, if_pos y6, if_neg nbi, Option.bind_some, inn, e4', dcl, if_neg nbd, e9.2.2.1]
                  exact ⟨_, _, rfl, rfl, iT⟩
                · simp only [if_neg y0, if_neg y1, if_neg y2, if_neg y3, if_neg y4, if_neg y5, if_neg y6, Option.bind_some]
                  exact ⟨_, _, rfl, rfl, iT⟩
end ATa
