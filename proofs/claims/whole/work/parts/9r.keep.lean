/-! KEEP IF LEAST. -/
section R9r
variable {sh : List Sh} {f : Nat} {S : St} {g b : Nat} {Y : Ly} {ρ : Nat → Nat}
abbrev yLs (Y : Ly) (s : Nat) (ρ : Nat → Nat) : Nat → Nat := lst (yF Y) (List.range (yL Y)) (yL Y / 2) (yG Y) ivp s ρ
abbrev yLst (Y : Ly) (ρ : Nat → Nat) : Prop := Lst (yF Y) (yK Y) (yFo Y) (yL Y) (yPP Y) (yG Y) ivp ρ
/-- what a call of the lister may change besides the gallery's list: the joins' tally -/
def yNe (Y : Ly) (ρ : Nat → Nat) : Prop := yRw Y ρ ∧ ∀ i, i < yN Y → yN Y ≤ ρ i
def lfB (S S' : St) (g gi : Nat) (Y : Ly) : Prop := (∀ x, x < g ∨ g + 7 < x → x ≠ g + 12 → x ≠ 22 → Sm S S' x) ∧ (∀ j, j ≠ 17 → j ≠ 19 → sI S' g j = sI S g j) ∧ (∀ i, i ≠ gi → sA S' (g + 12) i = sA S (g + 12) i) ∧ (sA S' (g + 12) gi = sA S (g + 12) gi ∨ ∃ ρ, yNe Y ρ ∧ sA S' (g + 12) gi = I (hvN Y ρ (yL Y)))
theorem lfB.rfl {S : St} {g gi : Nat} {Y : Ly} : lfB S S g gi Y := ⟨fun _ _ _ _ => Sm.rfl, fun _ _ _ => Eq.refl _, fun _ _ => Eq.refl _, Or.inl (Eq.refl _)⟩
theorem lfB.trans {S S' S'' : St} {g gi : Nat} {Y : Ly} (h : lfB S S' g gi Y) (k : lfB S' S'' g gi Y) : lfB S S'' g gi Y := by
  refine ⟨fun x a c d => (h.1 x a c d).trans (k.1 x a c d), fun j a c => (k.2.1 j a c).trans (h.2.1 j a c), fun i a => (k.2.2.1 i a).trans (h.2.2.1 i a), ?_⟩
  rcases k.2.2.2 with e | e
  · rcases h.2.2.2 with e' | ⟨ρ, a, e'⟩
    · exact Or.inl (e.trans e')
    · exact Or.inr ⟨ρ, a, e.trans e'⟩
  · exact Or.inr e
theorem lfB.of22 {S S' : St} {g gi : Nat} {Y : Ly} (hG : g = 23 ∨ g = 71) (h : ∀ x, x ≠ 22 → Sm S S' x) : lfB S S' g gi Y := ⟨fun x _ _ d => h x d, fun j _ _ => (h g (by omega)).I j, fun i _ => (h (g + 12) (by omega)).A i, Or.inl ((h (g + 12) (by omega)).A gi)⟩
def fxN (Y : Ly) (ρ : Nat → Nat) (s : Nat) : Nat := (List.range s).countP (fun s => kpB Y s && e12 (yLs Y s ρ) == e12 ρ)
theorem row16 {L : Nat} {ρ : Nat → Nat} (hL : L ≤ 12) (h : ∀ i, i < L → ρ i < L) : ∀ i, i < L → ρ i < 16 := fun i hi => by
  have := h i hi
  omega
theorem c_keep (hf : 1000 ≤ f) (h : lyC S 14 Y) (kb : bkC S b (yB Y)) (hb : b = 3 ∨ b = 61) (ok : yOk Y) (w : yRw Y ρ) (o : ∀ i, ¬ i < yL Y → ρ i = 99) (ne : ∀ i, i < yN Y → yN Y ≤ ρ i) (z : jnC S (fun _ _ => 0)) (hG : g = 23 ∨ g = 71) (r2 : sR S 13 2 = some g) (ck : ckX3 sh g = true) {gi : Nat} (h18 : sI S g 18 = I ((gi + 1 : Nat) : Int)) (hgi : gi < 20) {DL : List Dw} (ga : GA S g DL) (hd : ∀ d, d ∈ DL → d.1 = gi → hvN d.2.1 d.2.2 (yL d.2.1) = hvN Y ρ (yL Y)) : ∃ S', F_X5_keepIfLeast sh f S 13 b (J (e12 ρ)) (I (sgR Y ρ)) = some S' ∧ jnC S' (fun _ _ => 0) ∧ lfB S S' g gi Y ∧ (cn Y ρ ∧ yLst Y ρ → GA S' g (DL ++ [(gi, Y, ρ)])) ∧ (¬ (cn Y ρ ∧ yLst Y ρ) → GA S' g DL) := by
  have L12 := ok.2.2.2.2.2.2.1
  have ev := ok.2.2.2.2.2.2.2
  have hr : ∀ i, i < yL Y → ρ i < yL Y := fun i hi => (yRw_lt w hi).1
  have M8 := lkM_lt (Y := Y) (ρ := ρ) (yL Y)
  have hL2 : yL Y = 2 * (yL Y / 2) := by omega
  have li : yLst Y ρ ↔ ∀ s, s ∈ yPP Y → eN ρ (yL Y) ≤ eN (yLs Y s ρ) (yL Y) := Lst_iff (fo := yFo Y) (y_hk ok) hL2 (by omega) (y_Gp ok) w
  have rl := e12_lt ρ
  have cmpE : ∀ s, s ∈ yPP Y → (e12 ρ ≤ e12 (yLs Y s ρ)) = (eN ρ (yL Y) ≤ eN (yLs Y s ρ) (yL Y)) ∧ (e12 (yLs Y s ρ) = e12 ρ) = (eN (yLs Y s ρ) (yL Y) = eN ρ (yL Y)) := by
    intro s hs
    obtain ⟨a1, a2, a3, a4⟩ := lst_ok (fo := yFo Y) (y_hk ok) hL2 (by omega) (y_Gp ok) w hs
    have x16 : ∀ i, i < yL Y → yLs Y s ρ i < 16 := fun i hi => by
      have : yLs Y s ρ i < yL Y := (yRw_lt a1 hi).1
      omega
    have xo : ∀ i, yL Y ≤ i → yLs Y s ρ i = 99 := fun i hi => a3 i (by omega)
    have p := e12_le L12 (row16 L12 hr) (fun i hi => o i (by omega)) x16 xo
    have q := e12_le L12 x16 xo (row16 L12 hr) (fun i hi => o i (by omega))
    exact ⟨p.1, q.2⟩
  unfold F_X5_keepIfLeast
  rw [c_links hf h ok hr, Option.bind_some, c_hangs h ok M8, Option.bind_some]
  by_cases hh : yV Y ≤ popN 12 (lkM Y ρ (yL Y)) + 1
  · have hg := (hang_iff ok w).mp hh
    rw [if_pos hh, if_neg (by decide)]
    have lp : ∀ (d s nf : Nat) (T : St), s + d = 6 → d < nf → lfB S T g gi Y → GA T g DL → jnC T (fun _ _ => 0) → (∀ s', s' < s → kpB Y s' = true → e12 ρ ≤ e12 (yLs Y s' ρ)) → ∀ al : Nat, (0 < s → al = aF (yF Y) (List.range (yL Y)) ρ) → ∃ S', F_X5_keepIfLeast_L29 sh f 13 b (J (e12 ρ)) (I (sgR Y ρ)) nf T (I (lkM Y ρ (yL Y))) (I (fxN Y ρ s)) (I al) (I s) = some S' ∧ jnC S' (fun _ _ => 0) ∧ lfB S S' g gi Y ∧ (cn Y ρ ∧ yLst Y ρ → GA S' g (DL ++ [(gi, Y, ρ)])) ∧ (¬ (cn Y ρ ∧ yLst Y ρ) → GA S' g DL) := by
      intro d
      induction d with
      | zero =>
        intro s nf T h1 h2 fr gT jT all al hal
        obtain ⟨nf, rfl⟩ : ∃ e, nf = e + 1 := ⟨nf - 1, by omega⟩
        have : s = 6 := by omega
        subst this
        have hal := hal (by omega)
        subst hal
        have LS : yLst Y ρ := by
          rw [li]
          intro s hs
          obtain ⟨s6, ks⟩ := mem_PP.mp hs
          rw [← (cmpE s hs).1]
          exact all s s6 (kpB_iff.mpr ks)
        have CN : cn Y ρ := ⟨ne, hg⟩
        have T2 : sR T 13 2 = some g := ((fr.1 13 (by omega) (by omega) (by omega)).R 2).trans r2
        have T18 : sI T g 18 = I ((gi + 1 : Nat) : Int) := (fr.2.1 18 (by omega) (by omega)).trans h18
        have fe : fxN Y ρ 6 = fxd (yF Y) (List.range (yL Y)) (yPP Y) (yG Y) ivp ρ := by
          rw [fxd_eq (fo := yFo Y) (y_hk ok) hL2 (by omega) (y_Gp ok) w LS]
          unfold fxN
          have e : yPP Y = (List.range 6).filter (kpB Y) := rfl
          have e2 : (yPP Y).countP (fun s => eN (lst (yF Y) (List.range (yL Y)) (yL Y / 2) (yG Y) ivp s ρ) (yL Y) == eN ρ (yL Y)) = (yPP Y).countP (fun s => e12 (yLs Y s ρ) == e12 ρ) := by
            apply countP_cg
            intro s hs
            rw [Bool.eq_iff_iff, beq_iff_eq, beq_iff_eq, (cmpE s hs).2]
          rw [e2, e, List.countP_filter]
          apply countP_cg
          intro s _
          rw [Bool.and_comm]
        have pr : I (fxN Y ρ 6 : Int) * I (aF (yF Y) (List.range (yL Y)) ρ : Int) = I (alN Y ρ : Int) := by
          rw [fe, I_mul]
          unfold alN
          rfl
        rw [F_X5_keepIfLeast_L29, if_pos (by decide), T2, Option.bind_some, if_pos ck, pr]
        by_cases sz : DL.length < 200
        · obtain ⟨g19, g17, gen, ghv⟩ := gT.1 (by omega)
          obtain ⟨U, u0, u17, uI', u1, u2, u3, u4, u5, uf⟩ := c_add (sh := sh) (f := f) g17 sz T18 hgi (J (e12 ρ)) (I (alN Y ρ)) (I (sgR Y ρ))
          have U2 : sR U 13 2 = some g := ((uf 13 (by omega)).R 2).trans T2
          have U19 : sI U g 19 = 0 := (uI' 19 (by omega)).trans g19
          have U18 : sI U g 18 = I ((gi + 1 : Nat) : Int) := (uI' 18 (by omega)).trans T18
          have fU : ∀ x, x < g ∨ g + 7 < x → x ≠ g + 12 → x ≠ 22 → Sm S U x := fun x a c d => (fr.1 x a c d).trans (uf x (by omega))
          have lU := lyC_sm h (S' := U) (fun x _ _ => fU x (by omega) (by omega) (by omega))
          have kU : bkC U b (yB Y) := bkC_sm kb (fun x _ _ => fU x (by omega) (by omega) (by omega))
          rw [u0, Option.bind_some, U2, Option.bind_some, if_pos ck, if_pos U19, Option.bind_some, if_pos ck, c_heavies hf lU kU ok w, Option.bind_some, c_setHeavies U18 hgi, Option.bind_some]
          generalize hW : uA U (g + 12) gi (I (hvN Y ρ (yL Y))) = W
          have w12 : ∀ i, sA W (g + 12) i = up1 (sA U (g + 12)) gi (I (hvN Y ρ (yL Y))) i := by
            intro i
            rw [← hW, sA_uA, if_pos rfl]
          have wf : ∀ x, x ≠ g + 12 → Sm U W x := by
            intro x hx
            rw [← hW]
            exact (by repeat' (first | exact Sm.rfl | (refine Sm.uI ?_ (by omega)) | (refine Sm.uA ?_ (by omega)) | (refine Sm.uJ ?_ (by omega)) | (refine Sm.uL ?_ (by omega)) | (refine Sm.uR ?_ (by omega))))
          have W2 : sR W 13 2 = some g := ((wf 13 (by omega)).R 2).trans U2
          have lW := lyC_sm lU (S' := W) (fun x _ _ => wf x (by omega))
          have W17 : sI W g 17 = I ((DL.length + 1 : Nat) : Int) := ((wf g (by omega)).I 17).trans u17
          have c0 : cl Y ρ 0 = [] := rfl
          have en0 : enC W g DL.length (gi, Y, ρ) 0 := by
            unfold enC
            simp only
            rw [c0]
            refine ⟨?_, ?_, ?_, ?_, ?_, by simp, fun k hk => by simp at hk⟩
            · rw [(wf (g + 1) (by omega)).L, u1, up1_self]
            · rw [(wf (g + 2) (by omega)).A, u2, up1_self]
            · rw [(wf (g + 3) (by omega)).A, u3, up1_self]
            · rw [(wf (g + 4) (by omega)).A, u4, up1_self]
            · rw [(wf (g + 5) (by omega)).A, u5, up1_self]
              rfl
          obtain ⟨X, x0, x1, xf, xo⟩ := c_findCuts (sh := sh) (f := f) hf lW ok w hg hG W2 ck sz W17 en0
          rw [x0, Option.bind_some]
          have fX : ∀ x, x < g ∨ g + 7 < x → x ≠ g + 12 → x ≠ 22 → Sm S X x := fun x a c d => (fU x a c d).trans ((wf x c).trans (xf x (by omega)))
          have iX : ∀ j, j ≠ 17 → j ≠ 19 → sI X g j = sI S g j := fun j a c => ((xf g (by omega)).I j).trans (((wf g (by omega)).I j).trans ((uI' j a).trans (fr.2.1 j a c)))
          have a12 : ∀ i, sA X (g + 12) i = up1 (sA T (g + 12)) gi (I (hvN Y ρ (yL Y))) i := by
            intro i
            rw [(xf (g + 12) (by omega)).A, w12, up1_if, up1_if, (uf (g + 12) (by omega)).A]
          refine ⟨X, rfl, ?_, ⟨fX, iX, fun i hi => ?_, Or.inr ⟨ρ, ⟨w, ne⟩, by rw [a12, up1_self]⟩⟩, fun _ => ?_, fun hn => absurd ⟨CN, LS⟩ hn⟩
          · intro a c ha hc
            rw [(xf 22 (by omega)).A, (wf 22 (by omega)).A, (uf 22 (by omega)).A]
            exact jT a c ha hc
          · rw [a12, up1_ne _ _ hi]
            exact fr.2.2.1 i hi
          · refine ⟨fun hl => ?_, fun hl => by rw [List.length_append, List.length_singleton] at hl; omega⟩
            refine ⟨?_, ?_, fun i e he => ?_, fun e he => ?_⟩
            · rw [(xf g (by omega)).I, (wf g (by omega)).I, U19]
            · rw [(xf g (by omega)).I, W17, List.length_append, List.length_singleton]
            · by_cases gl : i < DL.length
              · rw [List.getElem?_append_left gl] at he
                have old := gen i e he
                obtain ⟨y1, y2⟩ := xo i (by omega)
                apply enC_cg old
                · rw [(xf (g + 1) (by omega)).L, (wf (g + 1) (by omega)).L, u1, up1_ne _ _ (by omega)]
                · intro c hc1 hc2
                  have cc : c = 2 ∨ c = 3 ∨ c = 4 ∨ c = 5 := by omega
                  rcases cc with rfl | rfl | rfl | rfl
                  · rw [(xf (g + 2) (by omega)).A, (wf (g + 2) (by omega)).A, u2, up1_ne _ _ (by omega)]
                  · rw [(xf (g + 3) (by omega)).A, (wf (g + 3) (by omega)).A, u3, up1_ne _ _ (by omega)]
                  · rw [(xf (g + 4) (by omega)).A, (wf (g + 4) (by omega)).A, u4, up1_ne _ _ (by omega)]
                  · rw [y1, (wf (g + 5) (by omega)).A, u5, up1_ne _ _ (by omega)]
                · intro k hk
                  obtain ⟨z1, z2⟩ := y2 k hk
                  exact ⟨by rw [z1, (wf (g + 6) (by omega)).A, (uf (g + 6) (by omega)).A], by rw [z2, (wf (g + 7) (by omega)).A, (uf (g + 7) (by omega)).A]⟩
              · rw [List.getElem?_append_right (by omega)] at he
                have i0 : i - DL.length = 0 := by
                  apply Classical.byContradiction
                  intro q
                  rw [List.getElem?_eq_none (by rw [List.length_singleton]; omega)] at he
                  cases he
                rw [i0, List.getElem?_cons_zero] at he
                cases he
                rw [show i = DL.length by omega]
                exact x1
            · rw [List.mem_append, List.mem_singleton] at he
              rw [a12, up1_if]
              rcases he with he | he
              · by_cases q : e.1 = gi
                · rw [if_pos q, hd e he q]
                · rw [if_neg q]
                  exact ghv e he
              · rw [he, if_pos rfl]
        · have s17 : sI T g 17 = I 200 := by
            by_cases q : DL.length = 200
            · rw [(gT.1 (by omega)).2.1, q]
              rfl
            · exact (gT.2 (by omega)).2
          rw [c_add2 s17, Option.bind_some]
          have e2 : sR (uI T g 19 1) 13 2 = some g := T2
          rw [e2, Option.bind_some, if_pos ck, sI_self, if_neg (by decide)]
          refine ⟨_, rfl, fun a c ha hc => jT a c ha hc, fr.trans ⟨fun x a c d => (by repeat' (first | exact Sm.rfl | (refine Sm.uI ?_ (by omega)) | (refine Sm.uA ?_ (by omega)) | (refine Sm.uJ ?_ (by omega)) | (refine Sm.uL ?_ (by omega)) | (refine Sm.uR ?_ (by omega)))), fun j a c => by rw [sI_ne _ _ _ c], fun i _ => rfl, Or.inl rfl⟩, fun _ => ⟨fun hl => by rw [List.length_append, List.length_singleton] at hl; omega, fun _ => ⟨sI_self _ _ _ _, by rw [sI_ne _ _ _ (by omega)]; exact s17⟩⟩, fun hn => absurd ⟨CN, LS⟩ hn⟩
      | succ d ih =>
        intro s nf T h1 h2 fr gT jT all al hal
        obtain ⟨nf, rfl⟩ : ∃ e, nf = e + 1 := ⟨nf - 1, by omega⟩
        have c6 : ¬ (6 : Int32) ≤ I s := by
          rw [show (6 : Int32) = I ((6 : Nat) : Int) from rfl, I_leN (by omega) (by omega)]; omega
        have lT := lyC_sm h (S' := T) (fun x _ _ => fr.1 x (by omega) (by omega) (by omega))
        have fs : fxN Y ρ (s + 1) = fxN Y ρ s + (if (kpB Y s && e12 (yLs Y s ρ) == e12 ρ) = true then 1 else 0) := by
          unfold fxN
          rw [List.range_succ, List.countP_append, List.countP_singleton]
        rw [F_X5_keepIfLeast_L29, if_neg c6]
        simp only [Nat.reduceAdd]
        rw [c_keeps hf lT ok (by omega), Option.bind_some]
        by_cases kk : kpB Y s = true
        · have hs : s ∈ yPP Y := mem_PP.mpr ⟨by omega, kpB_iff.mp kk⟩
          rw [if_pos kk, if_neg (by decide)]
          obtain ⟨U, u0, u1, uf⟩ := c_tally (sh := sh) hf lT ok w hs jT
          have lU := lyC_sm lT (S' := U) (fun x _ _ => uf x (by omega))
          obtain ⟨W, w0, w1, wf⟩ := c_least (sh := sh) hf lU ok (cg_rw (y_Gp ok) hs w) u1
          have w0' : F_X5_leastTallied sh f U 13 = some (J (e12 (yLs Y s ρ)), W) := w0
          have ol := e12_lt (yLs Y s ρ)
          have fW : lfB T W g gi Y := lfB.of22 hG (fun x hx => (uf x hx).trans (wf x hx))
          have gW : GA W g DL := GA_sm gT (fun x _ _ => (uf x (by omega)).trans (wf x (by omega)))
          have q0 : (lg_cmp (J (e12 (yLs Y s ρ))) (J (e12 ρ)) = 0) = (e12 (yLs Y s ρ) = e12 ρ) := by
            rw [lgc, J_eq (by omega) (by omega)]
            exact propext ⟨fun h => by omega, fun h => by omega⟩
          have q1 : (0 ≤ lg_cmp (J (e12 (yLs Y s ρ))) (J (e12 ρ))) = (e12 ρ ≤ e12 (yLs Y s ρ)) := by
            have := lgc_lt (a := e12 (yLs Y s ρ)) (c := e12 ρ) (by omega) (by omega)
            rw [← I_nlt, this]
            exact propext ⟨fun h => by omega, fun h => by omega⟩
          rw [u0, Option.bind_some]
          simp only [bnd]
          rw [w0', Option.bind_some]
          simp only [q0, q1, I_suc]
          by_cases le : e12 ρ ≤ e12 (yLs Y s ρ)
          · rw [if_pos le]
            have next := ih (s + 1) nf W (by omega) (by omega) (fr.trans fW) gW w1 (fun s' hs' ks' => by
              by_cases q : s' = s
              · rw [q]; exact le
              · exact all s' (by omega) ks') (aF (yF Y) (List.range (yL Y)) ρ) (fun _ => rfl)
            rw [fs, kk, Bool.true_and] at next
            by_cases eq : e12 (yLs Y s ρ) = e12 ρ
            · rw [if_pos (by rw [eq, beq_self_eq_true])] at next
              rw [if_pos eq]
              exact next
            · rw [if_neg (by rw [beq_iff_eq]; exact eq), Nat.add_zero] at next
              rw [if_neg eq, show (I (fxN Y ρ s : Int) + 0 : Int32) = I (fxN Y ρ s : Int) from by rw [show (0 : Int32) = I 0 from rfl, I_add, Int.add_zero]]
              exact next
          · rw [if_neg le]
            have nL : ¬ yLst Y ρ := by
              rw [li]
              intro hall
              have := hall s hs
              rw [← (cmpE s hs).1] at this
              exact le this
            exact ⟨W, rfl, w1, fr.trans fW, fun hp => absurd hp.2 nL, fun _ => gW⟩
        · have k0 : kpB Y s = false := eq_false_of_ne_true kk
          rw [if_neg kk, if_pos rfl]
          simp only [bnd, I_suc]
          rw [k0, Bool.false_and, if_neg (by decide)] at fs
          have fs' : fxN Y ρ (s + 1) = fxN Y ρ s := fs
          rw [← fs']
          refine ih (s + 1) nf T (by omega) (by omega) fr gT jT (fun s' hs' ks' => ?_) al (fun _ => ?_)
          · by_cases q : s' = s
            · rw [q] at ks'; exact absurd ks' kk
            · exact all s' (by omega) ks'
          · apply hal
            apply Classical.byContradiction
            intro q
            have s0 : s = 0 := by omega
            subst s0
            exact kk (kpB_iff.mpr (mem_PP.mp (y_Gp ok).2.1).2)
    exact lp 6 0 f S (by omega) (by omega) lfB.rfl ga z (fun s' hs' => by omega) 1 (fun q => by omega)
  · rw [if_neg hh, if_pos rfl]
    have nh : ¬ hgP Y ρ := fun q => hh ((hang_iff ok w).mpr q)
    exact ⟨S, rfl, z, lfB.rfl, fun hp => absurd hp.1.2 nh, fun _ => ga⟩
end R9r
