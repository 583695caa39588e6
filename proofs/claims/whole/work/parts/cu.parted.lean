/-! PARTED. -/
section CUx
variable {sh : List Sh} {f : Nat} {S : St} {p : PC} {q : Option Nat} {w : Nat} {X : NS}
abbrev xNe (X : NS) (sd k0 : Nat) : En := neE (xN X) (xE X) (xU X) sd k0
abbrev xFa (X : NS) (sd k0 : Nat) : En := faE (xB X) (xN X) (xE X) (xU X) sd k0
theorem c_rp {sd k0 o : Nat} (hf : 20000 ≤ f) (h : inv sh S p q w X) (ho : 2 ≤ o ∧ o ≤ 3) (hs : sd < 64) (sp1 : 2 ≤ popN (xN X) sd) (sp2 : popN (xN X) sd + 2 ≤ xN X) (kb : k0 < bK (xB X)) : ∃ S1, F_X8_reckonParts sh f S 0 (I sd) (I k0) (I o) = some (pCd (xB X) (xN X) (xE X) (xU X) (xL X) sd k0 o, S1) ∧ cAns S S1 p (pCd (xB X) (xN X) (xE X) (xU X) (xL X) sd k0 o) (fun k => rrD (xB X) (xNe X sd k0) (xFa X sd k0) (xL X) o k (o - 1) 1 0) (ppD (xB X) (xNe X sd k0) (xFa X sd k0) o (o - 1) 1 (-1)) := by
  have h0 := h.1
  have pt := h0.2.1
  have pd := h0.2.2.1
  have gG := pd.2.1
  have gA := pd.2.2
  have gB := pd.1
  obtain ⟨e1, e2, e3, e4, e5⟩ := h0.2.2.2.2.2.2.2.1
  have eb : ∀ i, i < xN X → -999 ≤ xU X i ∧ xU X i ≤ 999 := fun i hi => ⟨(e5 i hi).2.1, (e5 i hi).2.2.1⟩
  have ek : ∀ i, i < xN X → xE X i < bK (xB X) := fun i hi => (e5 i hi).1
  have x6 : xN X ≤ 6 := e1
  have bo := h0.2.2.2.2.2.2.1
  have ca : ckX7 sh p.2.2.2.2.2 = true := sh7 h0.1 (by omega)
  have cb : ckX0 sh p.1 = true := pc0 h0
  have kF : bF (xB X) k0 < bK (xB X) := (bo.1.1.2 k0 kb).1
  obtain ⟨cn, cf⟩ := sd_cnt x6 sp1 sp2
  obtain ⟨Y, y0, y1, y2, y3⟩ := c_split (sh := sh) (f := f) (S := S) (B := xB X) (n := xN X) (bb := p.1) (k0 := k0) (sd := sd) (ek := xE X) (nu := xU X) (by omega) x6 bo.1 bo.2.1 (by omega) pt.1 cb e2 (fun i hi => ⟨(e5 i hi).2.2.2.1, (e5 i hi).2.2.2.2.2.1⟩) kb hs (by omega) (by omega)
  have n1 : 1 ≤ (xNe X sd k0).1 ∧ (xNe X sd k0).1 ≤ 6 := by
    show 1 ≤ spc (sB sd) (xN X) + 1 ∧ spc (sB sd) (xN X) + 1 ≤ 6
    omega
  have f1 : 1 ≤ (xFa X sd k0).1 ∧ (xFa X sd k0).1 ≤ 6 := by
    show 1 ≤ spc (fun i => !(sB sd i)) (xN X) + 1 ∧ spc (fun i => !(sB sd i)) (xN X) + 1 ≤ 6
    omega
  have eN : enA Y 47 (xNe X sd k0).1 (xNe X sd k0).2.1 (xNe X sd k0).2.2 := y1
  have eF : enA Y 50 (xFa X sd k0).1 (xFa X sd k0).2.1 (xFa X sd k0).2.2 := y2
  have nk : ∀ i, i < (xNe X sd k0).1 → (xNe X sd k0).2.1 i < bK (xB X) := ptK_lt ek kb
  have fk : ∀ i, i < (xFa X sd k0).1 → (xFa X sd k0).2.1 i < bK (xB X) := ptK_lt ek kF
  have NY : cN S Y p := ⟨fun x a b c d => y3 x (by omega), jnC_sm h.2.1 (y3 22 (by omega))⟩
  have kY : bkC Y p.1 (xB X) := bkC_sm bo.2.1 (fun x a b => y3 x (by omega))
  have r10 : sR Y 0 10 = some p.1 := ((y3 0 (by omega)).R 10).trans pt.1
  have r13 : sR Y 0 13 = some p.2.2.2.2.2 := ((y3 0 (by omega)).R 13).trans pt.2.2.2.2.2
  have b1 := c_bal (sh := sh) (f := f) (S := Y) (t := 44) (b := p.1) (ek := xE X) (n := xN X) (by omega) bo.1 kY e1 (((y3 44 (by omega)).I 2).trans e2) (fun i hi => ⟨(e5 i hi).1, ((y3 45 (by omega)).A i).trans (e5 i hi).2.2.2.1⟩)
  have b2 := c_bal (sh := sh) (f := f) (S := Y) (t := 47) (b := p.1) (ek := (xNe X sd k0).2.1) (n := (xNe X sd k0).1) (by omega) bo.1 kY n1.2 eN.1 (fun i hi => ⟨nk i hi, (eN.2 i hi).1⟩)
  have b3 := c_bal (sh := sh) (f := f) (S := Y) (t := 50) (b := p.1) (ek := (xFa X sd k0).2.1) (n := (xFa X sd k0).1) (by omega) bo.1 kY f1.2 eF.1 (fun i hi => ⟨fk i hi, (eF.2 i hi).1⟩)
  have b1' : F_X1_isBalanced sh f Y (0 + 44) p.1 = _ := b1
  have b2' : F_X1_isBalanced sh f Y (0 + 47) p.1 = _ := b2
  have b3' : F_X1_isBalanced sh f Y (0 + 50) p.1 = _ := b3
  have tot := c_total (sh := sh) (f := f) (S := Y) (t := 44) (n := xN X) (en := xU X) (by omega) e1 (((y3 44 (by omega)).I 2).trans e2) (fun i hi => ((y3 46 (by omega)).A i).trans (e5 i hi).2.2.2.2.2.1)
  have tot' : F_X1_total sh f Y (0 + 44) = _ := tot
  have sb := sumE_bd (en := xU X) (xN X) (fun i hi => by have := eb i hi; omega)
  have q0 : (I (sumE (xU X) (xN X)) = 0) = (sumE (xU X) (xN X) = 0) := by rw [show (0 : Int32) = I 0 from rfl, I_eq (by omega) (by omega)]
  unfold F_X8_reckonParts
  rw [y0, Option.bind_some, r10, Option.bind_some, if_pos cb, b1', Option.bind_some]
  by_cases d1 : evE (xB X) (xE X) (xN X) = 0
  · have v : pCd (xB X) (xN X) (xE X) (xU X) (xL X) sd k0 o = 7 := if_pos d1
    rw [if_pos d1, v]
    exact ⟨Y, rfl, c_no pd NY (by decide) (by decide)⟩
  · rw [if_neg d1, Option.bind_some, if_pos cb, b2', Option.bind_some]
    by_cases d2 : evE (xB X) (xNe X sd k0).2.1 (xNe X sd k0).1 = 0
    · have v : pCd (xB X) (xN X) (xE X) (xU X) (xL X) sd k0 o = 7 := by unfold pCd; rw [if_neg d1, if_pos d2]
      rw [if_pos d2, v]
      exact ⟨Y, rfl, c_no pd NY (by decide) (by decide)⟩
    · rw [if_neg d2, Option.bind_some, if_pos cb, b3', Option.bind_some]
      by_cases d3 : evE (xB X) (xFa X sd k0).2.1 (xFa X sd k0).1 = 0
      · have v : pCd (xB X) (xN X) (xE X) (xU X) (xL X) sd k0 o = 7 := by unfold pCd; rw [if_neg d1, if_neg d2, if_pos d3]
        rw [if_pos d3, v]
        exact ⟨Y, rfl, c_no pd NY (by decide) (by decide)⟩
      · rw [if_neg d3, tot', Option.bind_some]
        simp only [q0]
        by_cases sz : sumE (xU X) (xN X) = 0
        · obtain ⟨Z, z0, z1, z2, z3, z4, z5⟩ := c_clr (sh := sh) (f := f) (S := Y) (a := p.2.2.2.2.2) (by omega)
          have NZ : cN S Z p := ⟨fun x a b c d => (NY.1 x a b c d).trans (z4 x (by omega) (by omega)), jnC_sm NY.2 (z4 22 (by omega) (by omega))⟩
          obtain ⟨W, w0, w1⟩ := c_L74 (sh := sh) (f := f) (S := S) (N := xNe X sd k0) (F := xFa X sd k0) (o := o) (a1 := I sd) (a2 := I k0) (by omega) h0 n1 f1 nk fk (ptU_b eb cn) (ptU_b eb cf) ho.2 (o - 1) 1 f Z false (fun _ => 0) (-1) (by omega) (by omega) (by omega) NZ (enA_sm eN (fun x a b => z4 x (by omega) (by omega))) (enA_sm eF (fun x a b => z4 x (by omega) (by omega))) (fun k hk => by have := pQ_b k; omega) z1 z2 z3
          have w0' : F_X8_reckonParts_L74 sh f 0 (I sd) (I k0) (I o) f Z 1 = _ := w0
          have v : pCd (xB X) (xN X) (xE X) (xU X) (xL X) sd k0 o = tCd (xB X) (xNe X sd k0) (xFa X sd k0) (xL X) o (o - 1) 1 false (fun _ => 0) (-1) := by
            unfold pCd
            rw [if_neg d1, if_neg d2, if_neg d3, if_neg (fun x => x sz)]
            rfl
          rw [if_pos sz, r13, Option.bind_some, if_pos ca, z0, Option.bind_some, w0', v]
          exact ⟨W, rfl, w1⟩
        · have v : pCd (xB X) (xN X) (xE X) (xU X) (xL X) sd k0 o = 8 := by unfold pCd; rw [if_neg d1, if_neg d2, if_neg d3, if_pos sz]
          rw [if_neg sz, v]
          exact ⟨Y, rfl, c_no pd NY (by decide) (by decide)⟩
theorem fCd_4 {lb : Bool} {r : Nat → Nat} {P : Int32} : fCd lb r P ≠ 4 := by
  unfold fCd
  by_cases d : P ≠ -1
  · rw [if_pos d]; decide
  · rw [if_neg d]
    by_cases e : lb = false ∧ fnd r = true
    · rw [if_pos e]; decide
    · rw [if_neg e]; decide
theorem pCd_4 {B : Bk} {n : Nat} {ek : Nat → Nat} {nu le : Nat → Int} {sd k0 o : Nat} : pCd B n ek nu le sd k0 o ≠ 4 := by
  unfold pCd
  by_cases a : evE B ek n = 0
  · rw [if_pos a]; decide
  · rw [if_neg a]
    by_cases b : evE B (neE n ek nu sd k0).2.1 (neE n ek nu sd k0).1 = 0
    · rw [if_pos b]; decide
    · rw [if_neg b]
      by_cases c : evE B (faE B n ek nu sd k0).2.1 (faE B n ek nu sd k0).1 = 0
      · rw [if_pos c]; decide
      · rw [if_neg c]
        by_cases d : sumE nu n ≠ 0
        · rw [if_pos d]; decide
        · rw [if_neg d]
          unfold qCd
          by_cases e : rmD B (neE n ek nu sd k0) (faE B n ek nu sd k0) o (o - 1) 1 = true
          · rw [if_pos e]; exact fCd_4
          · rw [if_neg e]; decide
theorem st_parted (h : inv sh S p q w X) (hf : 20000 ≤ f) (s k o : Int32) : ∃ v S1 S2 p', F_X8_parted sh f S 0 s k o = some (v, S1) ∧ F_X12_parted sh f S1 94 s k o = some (v, S2) ∧ inv sh S2 p' q w X := by
  have h0 := h.1
  have cb := pc0 h0
  have bo := h0.2.2.2.2.2.2.1
  have rej : ∀ z : Int32, z ≠ 0 → z ≠ 4 ∧ z ≠ 5 → F_X8_cutRefusal sh f S 0 s k o = some z → F_X12_parted sh f (uI S 0 16 z) 94 s k o = some (0, rfS S z) → ∃ v S1 S2 p', F_X8_parted sh f S 0 s k o = some (v, S1) ∧ F_X12_parted sh f S1 94 s k o = some (v, S2) ∧ inv sh S2 p' q w X := by
    intro z z0 z1 a b
    refine ⟨0, uI S 0 16 z, rfS S z, p, ?_, b, inv_rf h z1⟩
    unfold F_X8_parted
    rw [a, Option.bind_some, if_neg z0, c_alw', if_neg z0]
  have i10 : ¬ (1 : Int32) = 0 := by decide
  rcases st_cut (f := f) (by omega) h0 s k o with ⟨a, b⟩ | ⟨a, b⟩ | ⟨sd, k0, V, rfl, rfl, rfl, n0, s6, s2, so, sp1, sp2, kb, hV, a, b⟩
  · refine rej 1 (by decide) (by decide) a ?_
    unfold F_X12_parted
    rw [bnd_e]
    rcases b _ (eqR_0 1) with c | ⟨c, d⟩
    · rw [c, Option.bind_some, if_pos rfl, r_den1]
    · rw [c, Option.bind_some, if_neg i10, d, Option.bind_some, if_pos rfl, r_den1]
  · refine rej 2 (by decide) (by decide) a ?_
    obtain ⟨c1, c2, c3, c4⟩ := b _ (eqR_0 2)
    unfold F_X12_parted
    rw [bnd_e, c1, Option.bind_some, if_neg i10, c2, Option.bind_some, if_neg i10, c3, Option.bind_some, if_pos rfl, r_den1]
  · obtain ⟨e1, e2, e3, e4, e5⟩ := h0.2.2.2.2.2.2.2.1
    have lt := h0.2.2.2.2.2.2.2.2.1
    obtain ⟨zz, hz, ck, qo, kr⟩ := q_some h0 n0
    have r5 : sR S 94 5 = some zz := h0.2.2.2.1.1.trans hz
    obtain ⟨S1, s0, s1⟩ := c_rp (sh := sh) (f := f) hf h hV s6 sp1 sp2 kb
    have c94 := cAns_94 h0.2.2.1 s1
    have g : eqR S (uI (uI S1 0 16 (pCd (xB X) (xN X) (xE X) (xU X) (xL X) sd k0 V)) 94 0 0) := ⟨by rw [sI_ne _ _ _ (by omega), (c94 94 (by omega)).I], fun j => (c94 94 (by omega)).R j, fun x hx => (c94 x (by omega)).trans (uI_o (by omega))⟩
    obtain ⟨c1, c2, c3⟩ := b _ g
    obtain ⟨S2, t0, t1⟩ := r_parted (sh := sh) (f := f) (S := uI S1 0 16 (pCd (xB X) (xN X) (xE X) (xU X) (xL X) sd k0 V)) (q := zz) (B := xB X) (n := xN X) (ek := xE X) (nu := xU X) (le := xL X) (sd := sd) (k0 := k0) (o := V) hf bo.1 ⟨(e4 n0).1, e1⟩ hV (((c94 94 (by omega)).I 17).trans e3) (fun i hi => ⟨(e5 i hi).1, (e5 i hi).2.1, (e5 i hi).2.2.1, ((c94 108 (by omega)).A i).trans (e5 i hi).2.2.2.2.1, ((c94 109 (by omega)).A i).trans (e5 i hi).2.2.2.2.2.2⟩) (((c94 94 (by omega)).R 5).trans r5) ck qo (bkR_sm kr (fun x a b => c94 x (by unfold qOk at qo; omega))) (fun l hl => ⟨(lt l hl).1, (lt l hl).2.1, ((c94 110 (by omega)).A l).trans (lt l hl).2.2.2⟩) s6 s2 sp1 sp2 kb c1 c2 c3
    obtain ⟨p', e⟩ := st_end h pCd_4 (fun _ k hk => rrD_lt _ _ _ (by have := pQ_b k; omega)) s1 t1
    refine ⟨if pCd (xB X) (xN X) (xE X) (xU X) (xL X) sd k0 V = 0 then 1 else 0, uI S1 0 16 (pCd (xB X) (xN X) (xE X) (xU X) (xL X) sd k0 V), S2, p', ?_, t0, e⟩
    unfold F_X8_parted
    rw [a, Option.bind_some, if_pos rfl, s0, Option.bind_some, bnd_e, c_alw']
end CUx
