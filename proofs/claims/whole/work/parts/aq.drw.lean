section AQa
variable {sh : List Sh} {S : St} {p : PC} {q : Option Nat} {w : Nat} {X : NS} {f : Nat}
/-- a refusal of both that leaves all else as it is -/
theorem inv_rf (h : inv sh S p q w X) {z : Int32} (hz : z ≠ 4 ∧ z ≠ 5) : inv sh (rfS S z) p q w X := inv_keep h (inv0_d h.1 hz) rfl rfl rfl rfl (by unfold rfS; rw [sI_row _ _ _ (by omega), sI_row _ _ _ (by omega), sI_row _ _ _ (by omega), sI_row _ _ _ (by omega), sI_ne _ _ _ (by omega)]) (fun x hx => rfS_sm (by omega) (by omega))
theorem gp_sh (h : inv0 sh S p q w X) : ckX3 sh p.2.2.1 = true ∧ ckX3 sh p.2.2.2.1 = true := ⟨sh3 h.1 (by have := h.2.2.1.2.1; omega), sh3 h.1 (by have := h.2.2.1.2.1; omega)⟩
theorem q_some (h : inv0 sh S p q w X) (n0 : xN X ≠ 0) : ∃ z, q = some z ∧ ckX9 sh z = true ∧ qOk z ∧ bkR S z (xB X) := by
  have b := h.2.2.2.2.2.2.1
  have e := h.2.2.2.2.2.2.2.1.2.2.2.1 n0
  cases hq : q with
  | none => exact absurd (b.2.2.1 hq) e.2
  | some z =>
    have r := h.2.2.2.1.2.2.2.2 z hq
    exact ⟨z, rfl, r.1, r.2.1, (b.2.2.2 z hq).2⟩
theorem GG_GD {g : Nat} {V : Nat} (h : GG S g (xB X) (xN X) (xE X) V (4 ^ V)) : GD S g (xB X) (xN X) (xE X) V := by
  refine ⟨h.1, h.2.1, fun i cc e => ?_⟩
  obtain ⟨⟨a1, a2, a3, a4, a5, a6, a7, a8⟩, b⟩ := h.2.2 i cc e
  exact ⟨⟨a1, a2, a3, a4, a5, a6, Or.inl a8⟩, b⟩
theorem GA_u {U U' : St} {g : Nat} {DL : List Dw} (h : GA U g DL) (k : ∀ x, g ≤ x → x ≤ g + 16 → Sm U U' x) : GA U' g DL := GA_sm h (fun x a b => k x a (by omega))
theorem st_drawings (h : inv sh S p q w X) (hf : 20000 ≤ f) (x : Int32) : ∃ v S1 S2 p', F_X8_drawings sh f S 0 x = some (v, S1) ∧ F_X12_drawings sh f S1 94 x = some (v, S2) ∧ inv sh S2 p' q w X := by
  have h0 := h.1
  obtain ⟨e1, e2, e3, e4, e5⟩ := h0.2.2.2.2.2.2.2.1
  have bo := h0.2.2.2.2.2.2.1
  have pt := h0.2.1
  have e2' : sI S (0 + 44) 2 = I (xN X) := e2
  have rej : ∀ z : Int32, z ≠ 0 → z ≠ 4 ∧ z ≠ 5 → F_X8_orderRefusal sh f S 0 x = some z → F_X12_drawings sh f (uI S 0 16 z) 94 x = some (-1, rfS S z) → ∃ v S1 S2 p', F_X8_drawings sh f S 0 x = some (v, S1) ∧ F_X12_drawings sh f S1 94 x = some (v, S2) ∧ inv sh S2 p' q w X := by
    intro z z0 z1 a b
    refine ⟨-1, uI S 0 16 z, rfS S z, p, ?_, b, inv_rf h z1⟩
    unfold F_X8_drawings
    rw [a, Option.bind_some, if_neg z0]
    rfl
  by_cases n0 : xN X = 0
  · refine rej 1 (by decide) (by decide) ?_ ?_
    · unfold F_X8_orderRefusal
      rw [e2', n0, if_pos (show I ((0 : Nat) : Int) = (0 : Int32) from rfl)]
    · have s17 : sI (uI (uI S 0 16 1) 94 0 0) 94 17 = I ((0 : Nat) : Int) := by
        rw [sI_ne _ _ _ (by omega), sI_row _ _ _ (by omega), e3]
        show I ((xN X : Nat) : Int) = _
        rw [n0]
      unfold F_X12_drawings
      simp only [bnd, s17]
      rw [if_pos (show I ((0 : Nat) : Int) = (0 : Int32) from rfl)]
      rfl
  · have n6 : 2 ≤ xN X ∧ xN X ≤ 6 := ⟨(e4 n0).1, e1⟩
    have n0' : ¬ I ((xN X : Nat) : Int) = (0 : Int32) := by
      rw [show (0 : Int32) = I ((0 : Nat) : Int) from rfl, I_eqN (by omega) (by omega)]
      exact n0
    have s17 : ∀ z : Int32, sI (uI (uI S 0 16 z) 94 0 0) 94 17 = I (xN X) := fun z => by
      rw [sI_ne _ _ _ (by omega), sI_row _ _ _ (by omega)]
      exact e3
    have bad : (x < 1 ∨ ¬ x < 1 ∧ 3 < x) → ∃ v S1 S2 p', F_X8_drawings sh f S 0 x = some (v, S1) ∧ F_X12_drawings sh f S1 94 x = some (v, S2) ∧ inv sh S2 p' q w X := by
      intro hb
      refine rej 2 (by decide) (by decide) ?_ ?_
      · unfold F_X8_orderRefusal
        rw [e2', if_neg n0']
        rcases hb with c | ⟨c, d⟩
        · rw [if_pos c]
        · rw [if_neg c, if_neg (by rw [I_nle]; exact d)]
      · have i0 : F_X12_in sh f (uI (uI S 0 16 2) 94 0 0) x 1 3 = some 0 := by
          unfold F_X12_in
          rcases hb with c | ⟨c, d⟩
          · rw [if_pos c]
          · rw [if_neg c, if_pos d]
        unfold F_X12_drawings
        simp only [bnd, s17]
        rw [if_neg n0', i0, Option.bind_some, if_pos rfl]
        rfl
    by_cases c1 : x < 1
    · exact bad (Or.inl c1)
    · by_cases c2 : x ≤ 3
      · obtain ⟨y, hy, y1, y2⟩ := inx (a := 1) (b := 3) (by omega) (by omega) c1 c2
        obtain ⟨V, rfl⟩ : ∃ V : Nat, y = (V : Int) := ⟨y.toNat, by omega⟩
        have hV : 1 ≤ V ∧ V ≤ 3 := by omega
        obtain ⟨z, hz, ck, qo, kr⟩ := q_some h0 n0
        have o0 : F_X8_orderRefusal sh f S 0 (I V) = some 0 := by
          rw [hy] at c1 c2
          unfold F_X8_orderRefusal
          rw [e2', if_neg n0', if_neg c1, if_pos c2]
        have bal := c_bal (sh := sh) (f := f) (S := S) (t := 44) (b := p.1) (ek := xE X) (n := xN X) (by omega) bo.1 bo.2.1 n6.2 e2 (fun i hi => ⟨(e5 i hi).1, (e5 i hi).2.2.2.1⟩)
        have bal' : F_X1_isBalanced sh f S (0 + 44) p.1 = _ := bal
        have r5 : sR S 94 5 = some z := h0.2.2.2.1.1.trans hz
        have ck0 := pc0 h0
        -- what the reference does from a state that keeps what it reads
        have ref : ∀ S1 : St, (∀ x, 94 ≤ x → Sm S S1 x) → _ := fun S1 k => r_dr0 (sh := sh) (f := f) (S := S1) (B := xB X) (n := xN X) (V := V) (z := z) (ek := xE X) (en := X.2.2.2.2.1) hf bo.1 n6 hV (((k 94 (by omega)).I 17).trans e3) (fun i hi => ⟨(e5 i hi).1, ((k 108 (by omega)).A i).trans (e5 i hi).2.2.2.2.1, ((k 109 (by omega)).A i).trans (e5 i hi).2.2.2.2.2.2⟩) (((k 94 (by omega)).R 5).trans r5) ck qo (bkR_sm kr (fun x a b => k x (by unfold qOk at qo; omega)))
        rw [hy]
        -- both refuse, or both list
        have an := h0.2.2.2.2.2.2.2.2.2.1
        have li := h0.2.2.2.2.2.2.2.2.2.2
        have pd := h0.2.2.1
        have pa : p.2.2.2.2.1 = 88 ∨ p.2.2.2.2.1 = 91 := by have := pd.2.2; omega
        by_cases ev : evE (xB X) (xE X) (xN X) = 0
        · have c0 : F_X8_drawings sh f S 0 (I V) = some (-1, uI S 0 16 7) := by
            unfold F_X8_drawings
            rw [o0, Option.bind_some, if_pos rfl, pt.1, Option.bind_some, if_pos ck0, bal', Option.bind_some, if_pos ev]
            rfl
          obtain ⟨v, S2, r0, r1, r2, r3, r4, r6, r7, rc⟩ := ref (uI S 0 16 7) (fun x hx => (by repeat' (first | exact Sm.rfl | (refine Sm.uI ?_ (by omega)) | (refine Sm.uA ?_ (by omega)) | (refine Sm.uJ ?_ (by omega)) | (refine Sm.uL ?_ (by omega)) | (refine Sm.uR ?_ (by omega)))))
          rcases rc with ⟨_, rv, rs, rl, rk⟩ | ⟨e, _⟩ | ⟨e, _⟩
          · subst rv
            refine ⟨-1, uI S 0 16 7, S2, p, c0, r0, ?_⟩
            have k : ∀ x, x ≠ 0 → x ≠ 94 → ¬ (118 ≤ x ∧ x ≤ 124) → ¬ (132 ≤ x ∧ x ≤ 142) → Sm S S2 x := by
              intro x a b c d
              refine (show Sm S (uI S 0 16 7) x from (by repeat' (first | exact Sm.rfl | (refine Sm.uI ?_ (by omega)) | (refine Sm.uA ?_ (by omega)) | (refine Sm.uJ ?_ (by omega)) | (refine Sm.uL ?_ (by omega)) | (refine Sm.uR ?_ (by omega))))).trans ?_
              by_cases u : 111 ≤ x ∧ x ≤ 117
              · exact rk x u.1 u.2
              · exact r1 x b (by omega) d
            have k0 : Sm (uI S 0 16 7) S2 0 := r1 0 (by omega) (by omega) (by omega)
            have s16 : sI S2 0 16 = 7 := by rw [k0.I, sI_self]
            have s14 : sI S2 0 14 = sI S 0 14 := by rw [k0.I, sI_ne _ _ _ (by omega)]
            have i0 : inv0 sh S2 p q w X := inv0_chg h0 ⟨rfl, rfl⟩ ⟨(k0.R 10).trans pt.1, ((k 1 (by omega) (by omega) (by omega) (by omega)).R 10).trans pt.2.1, (k0.R 11).trans pt.2.2.1, ((k 13 (by omega) (by omega) (by omega) (by omega)).R 2).trans pt.2.2.2.1, (k0.R 12).trans pt.2.2.2.2.1, (k0.R 13).trans pt.2.2.2.2.2⟩ pd (anR_sm an (by rw [k0.I, sI_ne _ _ _ (by omega)]) r2 (k _ (by omega) (by omega) (by omega) (by omega)) (k _ (by omega) (by omega) (by omega) (by omega)) (k 156 (by omega) (by omega) (by omega) (by omega))) ⟨by rw [rl, s14, sI_row _ _ _ (by omega)]; exact li.1, by rw [s14]; exact li.2⟩ (by rw [s16]; decide) (by rw [rs, s16]) r6 (by rw [r7, s16, if_neg (by decide)]) (fun j hj => by rw [r4 j hj, sI_row _ _ _ (by omega)]) (fun j => r3 j) (fun x hx => k x (by omega) (by omega) (by omega) (by omega))
            exact inv_keep h i0 rfl rfl rfl rfl s14 (fun x hx => k x (by omega) (by omega) (by omega) (by omega))
          · exact absurd ev e
          · exact absurd ev e
        · have gG : p.2.2.2.1 = 23 ∨ p.2.2.2.1 = 71 := by have := pd.2.1; omega
          have gL : p.2.2.1 = 23 ∨ p.2.2.1 = 71 := pg h0
          obtain ⟨T, t0, t1, t2, t3, t4⟩ := c_fill (sh := sh) (f := f) (S := S) (g := p.2.2.2.1) (b := p.1) (e := 44) (n := xN X) (V := V) (B := xB X) (ek := xE X) (by omega) bo.2.1 bo.1 (by have := pd.1; omega) (Or.inl rfl) (by omega) e2 (fun i hi => ⟨(e5 i hi).1, (e5 i hi).2.2.2.1⟩) hV h.2.1 gG pt.2.2.2.1 (gp_sh h0).2
          have t0' : F_X5_fill sh f S (0 + 13) p.1 (0 + 44) (I V) = _ := t0
          have kT : ∀ x, x < 14 ∨ 22 < x → x < p.2.2.2.1 ∨ p.2.2.2.1 + 16 < x → Sm S T x := t2
          have T0 := kT 0 (by omega) (by omega)
          by_cases le : (xD X V).length ≤ 200
          · -- listed
            have c0 : F_X8_drawings sh f S 0 (I V) = some (I (xD X V).length, uI (uI (uR (uR T 0 11 (some p.2.2.2.1)) 13 2 (some p.2.2.1)) 0 14 1) 0 16 0) := by
              have z1 : sR T 0 11 = some p.2.2.1 := (T0.R 11).trans pt.2.2.1
              have z2 : sR T (0 + 13) 2 = some p.2.2.2.1 := ((kT 13 (by omega) (by omega)).R 2).trans pt.2.2.2.1
              unfold F_X8_drawings
              rw [o0, Option.bind_some, if_pos rfl, pt.1, Option.bind_some, if_pos ck0, bal', Option.bind_some, if_neg ev, Option.bind_some, if_pos ck0, t0', Option.bind_some, if_pos le, if_neg (show ¬ (1 : Int32) = 0 by decide), z1, Option.bind_some, if_pos (gp_sh h0).1, z2, Option.bind_some, if_pos (gp_sh h0).2]
              simp only [bnd]
              have z3 : sR (uI (uI (uR (uR T 0 11 (some p.2.2.2.1)) (0 + 13) 2 (some p.2.2.1)) 0 14 1) 0 16 0) 0 11 = some p.2.2.2.1 := by
                show sR (uR (uR T 0 11 (some p.2.2.2.1)) 13 2 (some p.2.2.1)) 0 11 = _
                rw [sR_uR, if_neg (by omega), sR_uR, if_pos rfl, if_pos rfl]
              rw [z3, Option.bind_some, if_pos (gp_sh h0).2]
              have z4 : sI (uI (uI (uR (uR T 0 11 (some p.2.2.2.1)) (0 + 13) 2 (some p.2.2.1)) 0 14 1) 0 16 0) p.2.2.2.1 17 = I (xD X V).length := by
                rw [sI_row _ _ _ (by omega), sI_row _ _ _ (by omega)]
                exact (t3.1 le).2.1
              rw [z4]
            generalize hS1 : uI (uI (uR (uR T 0 11 (some p.2.2.2.1)) 13 2 (some p.2.2.1)) 0 14 1) 0 16 0 = S1 at c0
            have TS : ∀ x, x ≠ 0 → x ≠ 13 → Sm T S1 x := by
              intro x a b
              rw [← hS1]
              exact (by repeat' (first | exact Sm.rfl | (refine Sm.uI ?_ (by omega)) | (refine Sm.uA ?_ (by omega)) | (refine Sm.uJ ?_ (by omega)) | (refine Sm.uL ?_ (by omega)) | (refine Sm.uR ?_ (by omega))))
            obtain ⟨v, S2, r0, r1, r2, r3, r4, r6, r7, rc⟩ := ref S1 (fun x hx => (kT x (by omega) (by omega)).trans (TS x (by omega) (by omega)))
            rcases rc with ⟨e, _⟩ | ⟨_, e, _⟩ | ⟨_, _, rv, rs, rl, ra, rb, rd, re⟩
            · exact absurd e ev
            · exact absurd le (Nat.not_le.mpr e)
            · subst rv
              refine ⟨_, S1, S2, (p.1, p.2.1, p.2.2.2.1, p.2.2.1, p.2.2.2.2.1, p.2.2.2.2.2), c0, r0, ?_⟩
              have k : ∀ x, x ≠ 0 → (x < 13 ∨ 22 < x) → (x < p.2.2.2.1 ∨ p.2.2.2.1 + 16 < x) → x ≠ 94 → ¬ (111 ≤ x ∧ x ≤ 124) → ¬ (132 ≤ x ∧ x ≤ 142) → Sm S S2 x := fun x a b b' c d e => ((kT x (by omega) b').trans (TS x a (by omega))).trans (r1 x c d e)
              have kg : ∀ x, x ≠ 0 → x ≠ 13 → x < 94 → Sm T S2 x := fun x a b c => (TS x a b).trans (r1 x (by omega) (by omega) (by omega))
              have k0 : Sm S1 S2 0 := r1 0 (by omega) (by omega) (by omega)
              have k13 : Sm S1 S2 13 := r1 13 (by omega) (by omega) (by omega)
              have s16 : sI S2 0 16 = 0 := by rw [k0.I, ← hS1, sI_self]
              have s14 : sI S2 0 14 = 1 := by rw [k0.I, ← hS1, sI_ne _ _ _ (by omega), sI_self]
              have s15 : sI S2 0 15 = sI S 0 15 := by
                rw [k0.I, ← hS1, sI_ne _ _ _ (by omega), sI_ne _ _ _ (by omega)]
                exact T0.I 15
              have R0 : ∀ j, j ≠ 11 → sR S2 0 j = sR S 0 j := by
                intro j hj
                rw [k0.R, ← hS1]
                show sR (uR (uR T 0 11 (some p.2.2.2.1)) 13 2 (some p.2.2.1)) 0 j = _
                rw [sR_uR, if_neg (by omega), sR_uR, if_pos rfl, if_neg hj]
                exact T0.R j
              have R11 : sR S2 0 11 = some p.2.2.2.1 := by
                rw [k0.R, ← hS1]
                show sR (uR (uR T 0 11 (some p.2.2.2.1)) 13 2 (some p.2.2.1)) 0 11 = _
                rw [sR_uR, if_neg (by omega), sR_uR, if_pos rfl, if_pos rfl]
              have R132 : sR S2 13 2 = some p.2.2.1 := by
                rw [k13.R, ← hS1]
                show sR (uR (uR T 0 11 (some p.2.2.2.1)) 13 2 (some p.2.2.1)) 13 2 = _
                rw [sR_uR, if_pos rfl, if_pos rfl]
              have ST94 : Sm S S1 94 := (kT 94 (by omega) (by omega)).trans (TS 94 (by omega) (by omega))
              have anS : anR S2 p.2.2.2.2.1 := anR_sm an s15 (r2.trans ST94.2.2.2.1) (k _ (by omega) (by omega) (by omega) (by omega) (by omega) (by omega)) (k _ (by omega) (by omega) (by omega) (by omega) (by omega) (by omega)) (k 156 (by omega) (by omega) (by omega) (by omega) (by omega) (by omega))
              have i0 : inv0 sh S2 (p.1, p.2.1, p.2.2.2.1, p.2.2.1, p.2.2.2.2.1, p.2.2.2.2.2) q w X := inv0_chg h0 ⟨rfl, rfl⟩ ⟨(R0 10 (by omega)).trans pt.1, ((k 1 (by omega) (by omega) (by omega) (by omega) (by omega) (by omega)).R 10).trans pt.2.1, R11, R132, (R0 12 (by omega)).trans pt.2.2.2.2.1, (R0 13 (by omega)).trans pt.2.2.2.2.2⟩ ⟨pd.1, by have := pd.2.1; show p.2.2.2.1 = 71 ∧ p.2.2.1 = 23 ∨ p.2.2.2.1 = 23 ∧ p.2.2.1 = 71; omega, pd.2.2⟩ anS ⟨by rw [rl, s14], Or.inr s14⟩ (by rw [s16]; decide) (by rw [rs, s16]) r6 (by rw [r7, s16, if_neg (by decide)]) (fun j hj => by rw [r4 j hj, ST94.I]) (fun j => by rw [r3 j, ST94.R]) (fun x hx => k x (by omega) (by omega) (by omega) (by omega) (by omega) (by omega))
              refine ⟨i0, jnC_sm t1 (kg 22 (by omega) (by omega) (by omega)), fun _ => ⟨V, hV, n0, le, ?_, ?_, ra, rb, rd, re⟩⟩
              · show GA S2 p.2.2.2.1 (xD X V)
                exact GA_u t3 (fun x a b => kg x (by omega) (by omega) (by omega))
              · show GD S2 p.2.2.2.1 (xB X) (xN X) (xE X) V
                exact GD_sm (GG_GD (t4 le)) (fun x a b => kg x (by omega) (by omega) (by omega))
          · -- no room
            have c0 : F_X8_drawings sh f S 0 (I V) = some (-1, uI T 0 16 3) := by
              unfold F_X8_drawings
              rw [o0, Option.bind_some, if_pos rfl, pt.1, Option.bind_some, if_pos ck0, bal', Option.bind_some, if_neg ev, Option.bind_some, if_pos ck0, t0', Option.bind_some, if_neg le, if_pos (show (0 : Int32) = 0 from rfl)]
              rfl
            obtain ⟨v, S2, r0, r1, r2, r3, r4, r6, r7, rc⟩ := ref (uI T 0 16 3) (fun x hx => (kT x (by omega) (by omega)).trans (by repeat' (first | exact Sm.rfl | (refine Sm.uI ?_ (by omega)) | (refine Sm.uA ?_ (by omega)) | (refine Sm.uJ ?_ (by omega)) | (refine Sm.uL ?_ (by omega)) | (refine Sm.uR ?_ (by omega)))))
            rcases rc with ⟨e, _⟩ | ⟨_, _, rv, rs, rl, rk⟩ | ⟨_, e, _⟩
            · exact absurd e ev
            · subst rv
              refine ⟨-1, uI T 0 16 3, S2, p, c0, r0, ?_⟩
              have k : ∀ x, x ≠ 0 → (x < 14 ∨ 22 < x) → (x < p.2.2.2.1 ∨ p.2.2.2.1 + 16 < x) → x ≠ 94 → ¬ (118 ≤ x ∧ x ≤ 124) → ¬ (132 ≤ x ∧ x ≤ 142) → Sm S S2 x := by
                intro x a b b' c d e
                refine ((kT x b b').trans (show Sm T (uI T 0 16 3) x from (by repeat' (first | exact Sm.rfl | (refine Sm.uI ?_ (by omega)) | (refine Sm.uA ?_ (by omega)) | (refine Sm.uJ ?_ (by omega)) | (refine Sm.uL ?_ (by omega)) | (refine Sm.uR ?_ (by omega)))))).trans ?_
                by_cases u : 111 ≤ x ∧ x ≤ 117
                · exact rk x u.1 u.2
                · exact r1 x c (by omega) e
              have k0 : Sm (uI T 0 16 3) S2 0 := r1 0 (by omega) (by omega) (by omega)
              have s16 : sI S2 0 16 = 3 := by rw [k0.I, sI_self]
              have s14 : sI S2 0 14 = sI S 0 14 := by rw [k0.I, sI_ne _ _ _ (by omega), T0.I]
              have ST94 : Sm S (uI T 0 16 3) 94 := (kT 94 (by omega) (by omega)).trans (by repeat' (first | exact Sm.rfl | (refine Sm.uI ?_ (by omega)) | (refine Sm.uA ?_ (by omega)) | (refine Sm.uJ ?_ (by omega)) | (refine Sm.uL ?_ (by omega)) | (refine Sm.uR ?_ (by omega))))
              have i0 : inv0 sh S2 p q w X := inv0_chg h0 ⟨rfl, rfl⟩ ⟨((k0.R 10).trans (T0.R 10)).trans pt.1, ((k 1 (by omega) (by omega) (by omega) (by omega) (by omega) (by omega)).R 10).trans pt.2.1, ((k0.R 11).trans (T0.R 11)).trans pt.2.2.1, ((k 13 (by omega) (by omega) (by omega) (by omega) (by omega) (by omega)).R 2).trans pt.2.2.2.1, ((k0.R 12).trans (T0.R 12)).trans pt.2.2.2.2.1, ((k0.R 13).trans (T0.R 13)).trans pt.2.2.2.2.2⟩ pd (anR_sm an (by rw [k0.I, sI_ne _ _ _ (by omega), T0.I]) (r2.trans ST94.2.2.2.1) (k _ (by omega) (by omega) (by omega) (by omega) (by omega) (by omega)) (k _ (by omega) (by omega) (by omega) (by omega) (by omega) (by omega)) (k 156 (by omega) (by omega) (by omega) (by omega) (by omega) (by omega))) ⟨by rw [rl, s14, ST94.I]; exact li.1, by rw [s14]; exact li.2⟩ (by rw [s16]; decide) (by rw [rs, s16]) r6 (by rw [r7, s16, if_neg (by decide)]) (fun j hj => by rw [r4 j hj, ST94.I]) (fun j => by rw [r3 j, ST94.R]) (fun x hx => k x (by omega) (by omega) (by omega) (by omega) (by omega) (by omega))
              refine ⟨i0, jnC_sm t1 ((show Sm T (uI T 0 16 3) 22 from (by repeat' (first | exact Sm.rfl | (refine Sm.uI ?_ (by omega)) | (refine Sm.uA ?_ (by omega)) | (refine Sm.uJ ?_ (by omega)) | (refine Sm.uL ?_ (by omega)) | (refine Sm.uR ?_ (by omega))))).trans (r1 22 (by omega) (by omega) (by omega))), fun l => ?_⟩
              obtain ⟨V', v'⟩ := h.2.2 (s14 ▸ l)
              exact ⟨V', liV_sm v' rfl rfl rfl (fun x a b => k x (by omega) (by omega) (by have := pd.2.1; omega) (by omega) (by omega) (by omega)) (fun x a b => k x (by omega) (by omega) (by omega) (by omega) (by omega) (by omega))⟩
            · exact absurd e le
      · exact bad (Or.inr ⟨c1, by rw [← I_nle]; exact c2⟩)
end AQa
