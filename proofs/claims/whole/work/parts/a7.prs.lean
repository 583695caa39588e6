/-! THE REFERENCE goes through all rows. -/
def qOk (q : Nat) : Prop := q = 95 ∨ 159 ≤ q
theorem bkR_fr {fs cs : List Nat} {S S' : St} {q : Nat} {B : Bk} (h : fr fs cs S S') (hc : ∀ x, x ∈ cs → 106 ≤ x ∧ x ≤ 158) (hq : qOk q) (k : bkR S q B) : bkR S' q B := bkR_sm k (fun x h1 h2 => h.2.2.2 x (by unfold qOk at hq; omega) (fun e => by have := hc x e; unfold qOk at hq; omega))
theorem fm_sub {α β : Type} (g : α → List β) {l l' : List α} (h : l.Sublist l') : (l.flatMap g).length ≤ (l'.flatMap g).length := by
  induction h with
  | slnil => exact Nat.le_refl _
  | cons a _ ih =>
    rw [List.flatMap_cons, List.length_append]
    omega
  | cons_cons a _ ih =>
    rw [List.flatMap_cons, List.flatMap_cons, List.length_append, List.length_append]
    omega
theorem I_nn (x : Nat) (hx : x < 1000) : ¬ I (x : Int) = (-1 : Int32) := by
  rw [show (-1 : Int32) = I (-1) from rfl, I_eq (by omega) (by omega)]
  omega
section A7a
variable {sh : List Sh} {f q : Nat} {Y : Ly}
/-- what the goings through need, and leave as it was -/
def pfI (sh : List Sh) (S : St) (Y : Ly) (q : Nat) : Prop := rlC S Y ∧ sR S 94 5 = some q ∧ bkR S q (yB Y)
theorem pfI_fr {S S' : St} (hq : qOk q) {fs cs : List Nat} (h : fr fs cs S S') (r : pfI sh S Y q) (a1 : ¬ 25 ∈ fs) (a2 : ¬ 26 ∈ fs) (b1 : ¬ 132 ∈ cs) (b2 : ¬ 133 ∈ cs) (b3 : ¬ 135 ∈ cs) (hc : ∀ x, x ∈ cs → 106 ≤ x ∧ x ≤ 158) : pfI sh S' Y q := ⟨rlC_fr h r.1 a1 a2 b1 b2 b3, (h.R 5).trans r.2.1, bkR_fr h hc hq r.2.2⟩
theorem r_pf83 {i k e : Nat} {r : List Nat} {π : Nat → Nat} {S : St} {R : List (Nat → Nat)} {p1 : Int32} (hf : 1000 ≤ f) (ok : yOk Y) (hq : qOk q) (ck : ckX9 sh q = true) (len : (i :: r).length = 2 * (k + 1)) (srt : (i :: r).Pairwise (· < ·)) (hl : ∀ x, x ∈ i :: r → x < yL Y) (p : Pq Y (i :: r) π) (pf : pfI sh S Y q) (hR : R.length + (yLv Y (k + 1) (i :: r) π).length ≤ 10395)
    (ih : ∀ (l : List Nat) (π : Nat → Nat) (S : St) (R : List (Nat → Nat)) (o : Nat), l.length = 2 * k → l.Pairwise (· < ·) → (∀ x, x ∈ l → x < yL Y) → (∀ x, x ∈ l → o ≤ x) → o ≤ yL Y → Pq Y l π → pfI sh S Y q → paC S Y l π → RA S R → R.length + (yLv Y k l π).length ≤ 10395 → ∃ S', F_X12_pairsFrom sh f e S 94 (I o) = some S' ∧ fr [35] [134, 136, 137, 138] S S' ∧ paC S' Y l π ∧ RA S' (R ++ (yLv Y k l π).filter (cnB Y))) :
    ∀ (d j nf : Nat) (T : St), j + d = yL Y → d < nf → i < j → fr [35] [134, 136, 137, 138] S T → paC T Y (i :: r) π → RA T (R ++ ((r.filter (fun x => decide (x < j))).flatMap (fun j => if okF (yK Y) (yFo Y) i j = true then yLv Y k (r.erase j) (up1 (up1 π i j) j i) else [])).filter (cnB Y)) → ∃ S', F_X12_pairsFrom_L83 sh f 94 p1 (F_X12_pairsFrom sh f e) nf T (I i) (I j) = some S' ∧ fr [35] [134, 136, 137, 138] S S' ∧ paC S' Y (i :: r) π ∧ RA S' (R ++ (yLv Y (k + 1) (i :: r) π).filter (cnB Y)) := by
  have L12 := ok.2.2.2.2.2.2.1
  have iL := hl i (by simp)
  have nd : (i :: r).Nodup := srt.imp (fun h => by omega)
  have ndr : r.Nodup := (List.nodup_cons.mp nd).2
  have nir : ¬ i ∈ r := (List.nodup_cons.mp nd).1
  have srr : r.Pairwise (· < ·) := (List.pairwise_cons.mp srt).2
  have icl : (I (i : Int)).toNatClampNeg = i := I_clN (by omega)
  have nbi : ¬ (I (i : Int) < 0 ∨ 12 ≤ i) := I_bnd (by omega) (by omega)
  have K8 := ok.1.1.1
  have ki := k_lt ok i
  have kcl : (I (yK Y i : Int)).toNatClampNeg = yK Y i := I_clN (by omega)
  have nbk : ¬ (I (yK Y i : Int) < 0 ∨ 8 ≤ yK Y i) := I_bnd (by omega) (by omega)
  have fi : yFo Y (yK Y i) < bK (yB Y) := (ok.1.1.2 (yK Y i) ki).1
  have lvE : yLv Y (k + 1) (i :: r) π = r.flatMap (fun j => if okF (yK Y) (yFo Y) i j = true then yLv Y k (r.erase j) (up1 (up1 π i j) j i) else []) := rfl
  rw [lvE] at hR ⊢
  generalize hg : (fun j => if okF (yK Y) (yFo Y) i j = true then yLv Y k (r.erase j) (up1 (up1 π i j) j i) else []) = g at *
  intro d
  induction d with
  | zero =>
    intro j nf T h1 h2 h3 fT pT rT
    obtain ⟨nf, rfl⟩ : ∃ e, nf = e + 1 := ⟨nf - 1, by omega⟩
    have : j = yL Y := by omega
    subst this
    have e1 : r.filter (fun x => decide (x < yL Y)) = r := by
      rw [List.filter_eq_self]
      intro x hx
      exact decide_eq_true (hl x (by simp [hx]))
    rw [e1] at rT
    rw [F_X12_pairsFrom_L83, fT.I (by decide), pf.1.1, if_pos (by rw [I_leN (by omega) (by omega)]; omega)]
    exact ⟨T, rfl, fT, pT, rT⟩
  | succ d ih2 =>
    intro j nf T h1 h2 h3 fT pT rT
    obtain ⟨nf, rfl⟩ : ∃ e, nf = e + 1 := ⟨nf - 1, by omega⟩
    have jL : j < yL Y := by omega
    have jcl : (I (j : Int)).toNatClampNeg = j := I_clN (by omega)
    have nbj : ¬ (I (j : Int) < 0 ∨ 12 ≤ j) := I_bnd (by omega) (by omega)
    have pfT : pfI sh T Y q := pfI_fr hq fT pf (by decide) (by decide) (by decide) (by decide) (by decide) (by decide)
    have t134 : sA T (94 + 40) j = if j ∈ i :: r then -1 else I (π j) := pT j jL
    rw [F_X12_pairsFrom_L83, pfT.1.1, if_neg (by rw [I_leN (by omega) (by omega)]; omega), jcl, if_neg nbj, t134]
    have fs := fl_s srr j
    by_cases c : j ∈ r
    · rw [if_pos c] at fs
      have cj : j ∈ i :: r := by simp [c]
      have t132 : sA T (94 + 38) i = I (yK Y i) := (pfT.1.2.2.1 i iL).1
      have t132j : sA T (94 + 38) j = I (yK Y j) := (pfT.1.2.2.1 j jL).1
      have tq : sA T (q + 2) (yK Y i) = I (yFo Y (yK Y i)) := (pfT.2.2.2.2.1 _ ki).1
      have kj := k_lt ok j
      rw [if_pos cj, if_pos rfl, pfT.2.1, Option.bind_some, if_pos ck, icl, if_neg nbi, t132, kcl, if_neg nbk, if_neg nbj, tq, t132j, ite_eqN (by omega) (by omega)]
      by_cases o : yFo Y (yK Y i) = yK Y j
      · have oo : okF (yK Y) (yFo Y) i j = true := by
          unfold okF
          exact beq_iff_eq.mpr o.symm
        have gj : g j = yLv Y k (r.erase j) (up1 (up1 π i j) j i) := by
          rw [← hg]
          simp only [oo, if_true]
        have hij : i ≠ j := by omega
        have bnd1 : (R ++ ((r.filter (fun x => decide (x < j))).flatMap g).filter (cnB Y)).length + (yLv Y k (r.erase j) (up1 (up1 π i j) j i)).length ≤ 10395 := by
          have a1 : ((r.filter (fun x => decide (x < j + 1))).flatMap g).length ≤ (r.flatMap g).length := fm_sub g List.filter_sublist
          rw [fs, List.flatMap_append, List.length_append, List.flatMap_cons, List.flatMap_nil, List.append_nil, gj] at a1
          have a2 := List.length_filter_le (cnB Y) ((r.filter (fun x => decide (x < j))).flatMap g)
          rw [List.length_append]
          omega
        rw [if_pos o, if_neg nbi]
        simp only [bnd]
        rw [if_neg nbj, I_suc]
        generalize hU : uA (uA T (94 + 40) i (I j)) (94 + 40) j (I i) = U
        have fU : fr [35] [134, 136, 137, 138] S U := by
          rw [← hU]
          exact (fT.uA _ _ (by decide)).uA _ _ (by decide)
        have fTU : fr [] [134] T U := by
          rw [← hU]
          exact ((fr.rfl (S := T)).uA _ _ (by decide)).uA _ _ (by decide)
        have me : ∀ x, x ∈ r.erase j ↔ x ≠ j ∧ x ∈ r := fun x => ndr.mem_erase_iff
        have uv : ∀ x, sA U 134 x = if x = j then I i else if x = i then I j else sA T 134 x := by
          intro x
          rw [← hU, sA_uA, if_pos rfl, up1_if, sA_uA, if_pos rfl, up1_if]
        have pU : paC U Y (r.erase j) (up1 (up1 π i j) j i) := by
          intro x hx
          have px := pT x hx
          rw [uv]
          by_cases c1 : x = j
          · rw [if_pos c1, if_neg (fun h => ((me x).mp h).1 c1), c1, up1_self]
          · rw [if_neg c1]
            by_cases c2 : x = i
            · rw [if_pos c2, if_neg (fun h => nir (c2 ▸ ((me x).mp h).2)), up1_ne _ _ c1, c2, up1_self]
            · rw [if_neg c2, up1_ne _ _ c1, up1_ne _ _ c2]
              by_cases c3 : x ∈ r
              · rw [if_pos ((me x).mpr ⟨c1, c3⟩)]
                rw [if_pos (by simp [c3])] at px
                exact px
              · rw [if_neg (fun h => c3 ((me x).mp h).2)]
                rw [if_neg (by rw [List.mem_cons]; rintro (h | h); exact c2 h; exact c3 h)] at px
                exact px
        obtain ⟨X, x0, x1, x2, x3⟩ := ih (r.erase j) (up1 (up1 π i j) j i) U _ (i + 1) (by rw [List.length_erase_of_mem c]; rw [List.length_cons] at len; omega) (srr.sublist List.erase_sublist) (fun x hx => hl x (by simp [List.mem_of_mem_erase hx])) (fun x hx => (List.pairwise_cons.mp srt).1 x (List.mem_of_mem_erase hx)) (by omega) (Pq_step ok p hl nd c oo) (pfI_fr hq fU pf (by decide) (by decide) (by decide) (by decide) (by decide) (by decide)) pU (RA_fr fTU rT (by decide) (by decide) (by decide)) bnd1
        rw [x0, Option.bind_some, if_neg nbi, if_neg nbj, I_suc j]
        have fX : fr [35] [134, 136, 137, 138] S X := fU.trans x1
        refine ih2 (j + 1) nf (uA (uA X 134 i (-1)) 134 j (-1)) (by omega) (by omega) (by omega) ((fX.uA _ _ (by decide)).uA _ _ (by decide)) ?_ ?_
        · intro x hx
          have px := x2 x hx
          rw [sA_uA, if_pos rfl, up1_if, sA_uA, if_pos rfl, up1_if]
          by_cases c1 : x = j
          · rw [if_pos c1, if_pos (by rw [c1]; exact cj)]
          · rw [if_neg c1]
            by_cases c2 : x = i
            · rw [if_pos c2, if_pos (by simp [c2])]
            · rw [if_neg c2]
              rw [up1_ne _ _ c1, up1_ne _ _ c2] at px
              by_cases c3 : x ∈ r
              · rw [if_pos ((me x).mpr ⟨c1, c3⟩)] at px
                rw [if_pos (by simp [c3])]
                exact px
              · rw [if_neg (fun h => c3 ((me x).mp h).2)] at px
                rw [if_neg (by rw [List.mem_cons]; rintro (h | h); exact c2 h; exact c3 h)]
                exact px
        · rw [fs, List.flatMap_append, List.filter_append, List.flatMap_cons, List.flatMap_nil, List.append_nil, gj, ← List.append_assoc]
          exact RA_fr (((fr.rfl (fs := []) (cs := [134]) (S := X)).uA _ _ (by decide)).uA _ _ (by decide)) x3 (by decide) (by decide) (by decide)
      · have gj : g j = [] := by
          rw [← hg]
          have : ¬ okF (yK Y) (yFo Y) i j = true := by
            unfold okF
            rw [beq_iff_eq]
            exact fun h => o h.symm
          simp only [if_neg this]
        rw [if_neg o]
        simp only [bnd, I_suc]
        refine ih2 (j + 1) nf T (by omega) (by omega) (by omega) fT pT ?_
        rw [fs, List.flatMap_append, List.flatMap_cons, List.flatMap_nil, List.append_nil, gj, List.append_nil]
        exact rT
    · rw [if_neg c, List.append_nil] at fs
      have cj : ¬ j ∈ i :: r := by
        rw [List.mem_cons]
        rintro (h | h)
        · omega
        · exact c h
      have pj := (p.1 j jL cj).1
      rw [if_neg cj, if_neg (I_nn _ (by omega))]
      simp only [bnd, I_suc]
      refine ih2 (j + 1) nf T (by omega) (by omega) (by omega) fT pT ?_
      rw [fs]
      exact rT
end A7a
