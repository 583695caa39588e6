/-! THE CLASS reckons the worth of all drawings, or of those with a cut: as a whole. -/
section CKx
variable {sh : List Sh} {f : Nat} {S T : St} {p : PC} {q : Option Nat} {w : Nat} {X : NS}
abbrev xU (X : NS) : Nat → Int := X.2.2.2.2.1
abbrev xL (X : NS) : Nat → Int := X.2.2.2.2.2
theorem c_L81 {g V sd kd : Nat} {DL : List Dw} {l4 a1 kx : Int32} (hf : 1000 ≤ f) (h : inv0 sh S p q w X) (N : cN S T p) (hg : l4 = 0 ∧ g = p.2.2.2.1 ∨ l4 ≠ 0 ∧ g = p.2.2.1) (l200 : DL.length ≤ 200) (hsz : sI T g 17 = I DL.length) (en : ∀ i d, DL[i]? = some d → enW T g V i d ∧ yB d.2.1 = xB X ∧ yN d.2.1 = xN X) (hs : sd < 64) (hkd : kd < 8) (hx : sd = 0 ∨ kx = I kd) : ∃ S1, F_X8_reckonWhole_L81 sh f 0 a1 (I sd) kx T l4 = some (fCd (loL (xU X) V sd kd false DL) (fun k => rsL (xU X) (xL X) V sd kd k 0 DL) (plL (xU X) V sd kd (-1) DL), S1) ∧ cAns S S1 p (fCd (loL (xU X) V sd kd false DL) (fun k => rsL (xU X) (xL X) V sd kd k 0 DL) (plL (xU X) V sd kd (-1) DL)) (fun k => rsL (xU X) (xL X) V sd kd k 0 DL) (plL (xU X) V sd kd (-1) DL) := by
  have pt := h.2.1
  have pd := h.2.2.1
  have gG := pd.2.1
  have gA := pd.2.2
  have gB := pd.1
  obtain ⟨e1, e2, e3, e4, e5⟩ := h.2.2.2.2.2.2.2.1
  have eb : ∀ i, i < xN X → -999 ≤ xU X i ∧ xU X i ≤ 999 := fun i hi => ⟨(e5 i hi).2.1, (e5 i hi).2.2.1⟩
  have kb := h.2.2.2.2.2.2.1.2.1
  have lt := h.2.2.2.2.2.2.2.2.1
  have ca : ckX7 sh p.2.2.2.2.2 = true := sh7 h.1 (by omega)
  have cb : ckX0 sh p.1 = true := pc0 h
  have hgg : g = 23 ∨ g = 71 := by omega
  have cg : ckX3 sh g = true := sh3 h.1 hgg
  have s0 : Sm S T 0 := N.1 0 (by omega) (by omega) (by omega) (by omega)
  obtain ⟨U, u0, u1, u2, u3, u4, u5⟩ := c_clr (sh := sh) (f := f) (S := T) (a := p.2.2.2.2.2) hf
  have U0 : Sm T U 0 := u4 0 (by omega) (by omega)
  have NU : cN S U p := ⟨fun x a b c d => (N.1 x a b c d).trans (u4 x (by omega) (by omega)), jnC_sm N.2 (u4 22 (by omega) (by omega))⟩
  have SU : ∀ x, (x < 14 ∨ 40 ≤ x ∧ x ≤ 46 ∨ 59 ≤ x ∧ x ≤ 70) → Sm S U x := fun x hx => NU.1 x (by omega) (by omega) (by omega) (by omega)
  obtain ⟨W, w0, w1, w2, w3, w4, w5⟩ := c_adW (sh := sh) (f := f) (S := U) (a := p.2.2.2.2.2) (g := g) (b := p.1) (e := 44) (V := V) (n := xN X) (B := xB X) (nu := xU X) (le := xL X) (DL := DL) (sd := sd) (kd := kd) (ra := fun _ => 0) (P := -1) (lb := false) hf l200 (((u4 g (by omega) (by omega)).I 17).trans hsz) (fun i d hd => ⟨enW_sm (en i d hd).1 (fun x a b => u4 x (by omega) (by omega)), (en i d hd).2⟩) (bkC_sm kb (fun x a b => SU x (by omega))) (((SU 44 (by omega)).I 2).trans e2) (fun i hi => by have := eb i hi; omega) (fun i hi => ((SU 46 (by omega)).A i).trans (e5 i hi).2.2.2.2.2.1) (fun l hl => ⟨(lt l hl).1, (lt l hl).2.1, ((SU 59 (by omega)).A l).trans (lt l hl).2.2.1⟩) (fun x hx => by omega) hs hkd (fun k hk => by have := pQ_b k; omega) u1 u2 u3
  have w0' : F_X7_addWorths sh f U p.2.2.2.2.2 g p.1 (0 + 44) (0 + 59) 3 (I sd) kx = some W := by
    rcases hx with z | z
    · subst z
      have e : F_X7_addWorths sh f U p.2.2.2.2.2 g p.1 44 59 3 0 kx = F_X7_addWorths sh f U p.2.2.2.2.2 g p.1 44 59 3 0 (I kd) := aW_kd kx (I kd)
      exact e.trans w0
    · rw [z]
      exact w0
  have NW : cN S W p := ⟨fun x a b c d => (NU.1 x a b c d).trans (w4 x (by omega) (by omega) (by omega)), jnC_sm NU.2 (w4 22 (by omega) (by omega) (by omega))⟩
  obtain ⟨Z, z0, z1⟩ := c_fin (sh := sh) (f := f) (S := S) (T := W) (r := fun k => rsL (xU X) (xL X) V sd kd k 0 DL) hf h NW (fun k hk => rsL_lt _ _ (by have := pQ_b k; omega)) w1 w2 w3
  have r13 : sR T 0 13 = some p.2.2.2.2.2 := (s0.R 13).trans pt.2.2.2.2.2
  have r13' : sR U 0 13 = some p.2.2.2.2.2 := (U0.R 13).trans r13
  have r10 : sR U 0 10 = some p.1 := ((U0.R 10).trans (s0.R 10)).trans pt.1
  refine ⟨Z, ?_, z1⟩
  unfold F_X8_reckonWhole_L81
  rw [r13, Option.bind_some, if_pos ca, u0, Option.bind_some, r13', Option.bind_some, if_pos ca]
  rcases hg with ⟨y, yg⟩ | ⟨y, yg⟩
  · have r2 : sR U (0 + 13) 2 = some g := by
      rw [yg]
      exact ((SU 13 (by omega)).R 2).trans pt.2.2.2.1
    rw [if_pos y, r2, Option.bind_some, if_pos cg, r10, Option.bind_some, if_pos cb, w0', Option.bind_some, z0, Option.bind_some]
  · have r2 : sR U 0 11 = some g := by
      rw [yg]
      exact ((U0.R 11).trans (s0.R 11)).trans pt.2.2.1
    rw [if_neg y, r2, Option.bind_some, if_pos cg, r10, Option.bind_some, if_pos cb, w0', Option.bind_some, z0, Option.bind_some]
theorem c_rw {V sd kd : Nat} {kx : Int32} (hf : 20000 ≤ f) (h : inv sh S p q w X) (hV : 1 ≤ V ∧ V ≤ 3) (n0 : xN X ≠ 0) (hs : sd < 64) (hkd : kd < 8) (hx : sd = 0 ∨ kx = I kd) : ∃ S1, F_X8_reckonWhole sh f S 0 (I V) (I sd) kx = some (wCd (xB X) (xN X) (xE X) (xU X) (xL X) V sd kd, S1) ∧ cAns S S1 p (wCd (xB X) (xN X) (xE X) (xU X) (xL X) V sd kd) (fun k => rsL (xU X) (xL X) V sd kd k 0 (xD X V)) (plL (xU X) V sd kd (-1) (xD X V)) := by
  have h0 := h.1
  have pt := h0.2.1
  have pd := h0.2.2.1
  have gG := pd.2.1
  have gA := pd.2.2
  have gB := pd.1
  obtain ⟨e1, e2, e3, e4, e5⟩ := h0.2.2.2.2.2.2.2.1
  have eb : ∀ i, i < xN X → -999 ≤ xU X i ∧ xU X i ≤ 999 := fun i hi => ⟨(e5 i hi).2.1, (e5 i hi).2.2.1⟩
  have x6 : xN X ≤ 6 := e1
  have bo := h0.2.2.2.2.2.2.1
  have cb : ckX0 sh p.1 = true := pc0 h0
  have cg : ckX3 sh p.2.2.1 = true := sh3 h0.1 (by omega)
  have li := h0.2.2.2.2.2.2.2.2.2.2
  have n2 := (e4 n0).1
  have bal := c_bal (sh := sh) (f := f) (S := S) (t := 44) (b := p.1) (ek := xE X) (n := xN X) (by omega) bo.1 bo.2.1 e1 e2 (fun i hi => ⟨(e5 i hi).1, (e5 i hi).2.2.2.1⟩)
  have bal' : F_X1_isBalanced sh f S (0 + 44) p.1 = _ := bal
  have tot := c_total (sh := sh) (f := f) (S := S) (t := 44) (n := xN X) (en := xU X) (by omega) e1 e2 (fun i hi => (e5 i hi).2.2.2.2.2.1)
  have tot' : F_X1_total sh f S (0 + 44) = _ := tot
  have NS0 : cN S S p := ⟨fun _ _ _ _ _ => Sm.rfl, h.2.1⟩
  unfold F_X8_reckonWhole wCd
  rw [pt.1, Option.bind_some, if_pos cb, bal', Option.bind_some]
  by_cases ev : evE (xB X) (xE X) (xN X) = 0
  · rw [if_pos ev, if_pos ev]
    exact ⟨S, rfl, c_no pd NS0 (by decide) (by decide)⟩
  · rw [if_neg ev, if_neg ev, tot', Option.bind_some]
    have sb := sumE_bd (en := xU X) (xN X) (fun i hi => by have := eb i hi; omega)
    have q0 : (I (sumE (xU X) (xN X)) = 0) = (sumE (xU X) (xN X) = 0) := by rw [show (0 : Int32) = I 0 from rfl, I_eq (by omega) (by omega)]
    simp only [q0]
    by_cases sz : sumE (xU X) (xN X) = 0
    · rw [if_pos sz, if_neg (show ¬ sumE (xU X) (xN X) ≠ 0 from fun x => x sz)]
      have fresh : ∃ S1, F_X8_reckonWhole_L52 sh f 0 (I V) (I sd) kx S = some (if 200 < (dls (xB X) (xN X) (xE X) V (4 ^ V)).length then 3 else fCd (loL (xU X) V sd kd false (xD X V)) (fun k => rsL (xU X) (xL X) V sd kd k 0 (xD X V)) (plL (xU X) V sd kd (-1) (xD X V)), S1) ∧ cAns S S1 p (if 200 < (dls (xB X) (xN X) (xE X) V (4 ^ V)).length then 3 else fCd (loL (xU X) V sd kd false (xD X V)) (fun k => rsL (xU X) (xL X) V sd kd k 0 (xD X V)) (plL (xU X) V sd kd (-1) (xD X V))) (fun k => rsL (xU X) (xL X) V sd kd k 0 (xD X V)) (plL (xU X) V sd kd (-1) (xD X V)) := by
        obtain ⟨T, t0, t1, t2, t3, t4⟩ := c_fill (sh := sh) (f := f) (S := S) (g := p.2.2.2.1) (b := p.1) (e := 44) (n := xN X) (V := V) (B := xB X) (ek := xE X) (by omega) bo.2.1 bo.1 (by omega) (Or.inl rfl) (by omega) e2 (fun i hi => ⟨(e5 i hi).1, (e5 i hi).2.2.2.1⟩) hV h.2.1 (by omega) pt.2.2.2.1 (sh3 h0.1 (by omega))
        have t0' : F_X5_fill sh f S (0 + 13) p.1 (0 + 44) (I V) = _ := t0
        have NT : cN S T p := ⟨fun x a b _ _ => t2 x a b, t1⟩
        unfold F_X8_reckonWhole_L52 F_X8_reckonWhole_L53
        rw [if_pos rfl, pt.1, Option.bind_some, if_pos cb, t0', Option.bind_some]
        by_cases le : (dls (xB X) (xN X) (xE X) V (4 ^ V)).length ≤ 200
        · rw [if_pos le, if_neg (show ¬ (1 : Int32) = 0 by decide), if_neg (show ¬ 200 < (dls (xB X) (xN X) (xE X) V (4 ^ V)).length by omega)]
          exact c_L81 (sh := sh) (f := f) (by omega) h0 NT (Or.inl ⟨rfl, rfl⟩) le (t3.1 le).2.1 (fun i d hd => enW_fl hV.2 le t3 (t4 le) hd) hs hkd hx
        · rw [if_neg le, if_pos (show (0 : Int32) = 0 from rfl), if_pos (show 200 < (dls (xB X) (xN X) (xE X) V (4 ^ V)).length by omega)]
          exact ⟨T, rfl, c_no pd NT (by decide) (by decide)⟩
      rcases li.2 with l | l
      · rw [if_pos l]
        exact fresh
      · obtain ⟨V', v⟩ := h.2.2 l
        have s16 : sI S p.2.2.1 16 = I V' := v.2.2.2.2.1.1
        have V3 := v.1
        have q1 : (I (V' : Int) = I (V : Int)) = (V' = V) := I_eqN (by omega) (by omega)
        rw [if_neg (show ¬ sI S 0 14 = 0 by rw [l]; decide), pt.2.2.1, Option.bind_some, if_pos cg, s16]
        simp only [q1]
        by_cases e : V' = V
        · subst e
          have le := v.2.2.1
          have le' : (dls (xB X) (xN X) (xE X) V' (4 ^ V')).length ≤ 200 := le
          rw [if_pos rfl, if_neg (show ¬ 200 < (dls (xB X) (xN X) (xE X) V' (4 ^ V')).length by omega)]
          unfold F_X8_reckonWhole_L53
          rw [if_neg (show ¬ (1 : Int32) = 0 by decide)]
          exact c_L81 (sh := sh) (f := f) (by omega) h0 NS0 (Or.inr ⟨by decide, rfl⟩) le (v.2.2.2.1.1 le).2.1 (fun i d hd => enW_of v hd) hs hkd hx
        · rw [if_neg e]
          exact fresh
    · rw [if_neg sz, if_pos (show sumE (xU X) (xN X) ≠ 0 from sz)]
      exact ⟨S, rfl, c_no pd NS0 (by decide) (by decide)⟩
end CKx
