/-! THE REFERENCE lists the drawings of chosen rules. -/
section AIa
variable {sh : List Sh} {f q p1 : Nat} {Y : Ly} {S : St}
theorem nwL_one (gi : Nat) (ρ : Nat → Nat) : nwL Y gi [ρ] = if kpr Y ρ = true then [(gi, Y, ρ)] else [] := by
  unfold nwL
  rw [List.filter_cons, List.filter_nil]
  by_cases c : kpr Y ρ = true
  · rw [if_pos c, if_pos c]
    rfl
  · rw [if_neg c, if_neg c]
    rfl
theorem take_s {α : Type} {l : List α} {k : Nat} {a : α} (h : l[k]? = some a) : l.take (k + 1) = l.take k ++ [a] := by
  rw [List.take_add_one, h]
  rfl
theorem r_lo32 {gi : Nat} {DL : List Dw} (hf : 20000 ≤ f) (ok : yOk Y) (rl : rlC S Y) (rb : RB S (yHg Y)) (R : spR sh S Y q p1) (h3 : ∀ d, d ∈ DL → yV d.2.1 ≤ 3) : ∀ (g k nf : Nat) (T : St), k + g = (yHg Y).length → g < nf → nF p1 S T → rLs T p1 (DL ++ nwL Y gi ((yHg Y).take k)) → (DL ++ nwL Y gi ((yHg Y).take k)).length ≤ 200 → (∀ (x : Nat) (ρ : Nat → Nat), (yHg Y)[x]? = some ρ → (sA T 138 x = -1 ↔ ∀ (j : Nat) (τ : Nat → Nat), j < k → (yHg Y)[j]? = some τ → ¬ yEq Y τ ρ)) → ∃ T', F_X12_listsOf_L32 sh f 94 p1 nf T (I (yNa Y)) (I k) = some (if (DL ++ nwL Y gi (yHg Y)).length ≤ 200 then 1 else 0, T') ∧ nF p1 S T' ∧ ((DL ++ nwL Y gi (yHg Y)).length ≤ 200 → rLs T' p1 (DL ++ nwL Y gi (yHg Y))) := by
  have hp := R.2.2.2.2.2.2.2
  have ll := yHg_len ok
  have v3 := ok.2.2.2.1
  have nd : (List.range (yL Y)).Nodup := List.nodup_range
  have G := y_Gp ok
  intro g
  induction g with
  | zero =>
    intro k nf T h1 h2 fT ls le mk
    obtain ⟨nf, rfl⟩ : ∃ e, nf = e + 1 := ⟨nf - 1, by omega⟩
    have : k = (yHg Y).length := by omega
    subst this
    rw [List.take_length] at ls le
    rw [F_X12_listsOf_L32, (RB_nF hp fT rb).1, if_pos (by rw [I_leN (by omega) (by omega)]; omega), if_pos le]
    exact ⟨T, rfl, fT, fun _ => ls⟩
  | succ g ih =>
    intro k nf T h1 h2 fT ls le mk
    obtain ⟨nf, rfl⟩ : ∃ e, nf = e + 1 := ⟨nf - 1, by omega⟩
    have kl : k < (yHg Y).length := by omega
    obtain ⟨ρ, hk⟩ : ∃ ρ, (yHg Y)[k]? = some ρ := ⟨_, List.getElem?_eq_getElem kl⟩
    obtain ⟨w, o, c⟩ := (yHg_mem ok).mp (List.mem_of_getElem? hk)
    have nbk : ¬ (I (k : Int) < 0 ∨ 10395 ≤ k) := by
      rw [show (0 : Int32) = I ((0 : Nat) : Int) from rfl, I_ltN (by omega) (by omega)]
      omega
    have tk := take_s hk
    have ap : nwL Y gi ((yHg Y).take (k + 1)) = nwL Y gi ((yHg Y).take k) ++ (if kpr Y ρ = true then [(gi, Y, ρ)] else []) := by
      rw [tk, nwL_app, nwL_one]
    rw [F_X12_listsOf_L32, (RB_nF hp fT rb).1, if_neg (by rw [I_leN (by omega) (by omega)]; omega), I_clN (by omega), if_neg nbk]
    have mk' := mk k ρ hk
    by_cases m : sA T 138 k = -1
    · have m0 : sA T (94 + 44) k = -1 := m
      have un := mk'.mp m
      have kp : kpr Y ρ = true := kpr_iff.mpr ⟨c, (fst_lst ok hk).mpr un⟩
      have apD : DL ++ nwL Y gi ((yHg Y).take (k + 1)) = DL ++ nwL Y gi ((yHg Y).take k) ++ [(gi, Y, ρ)] := by
        rw [tk, nwL_app, nwL_one, if_pos kp, List.append_assoc]
      rw [if_pos m0, ls.1]
      generalize hN : DL ++ nwL Y gi ((yHg Y).take k) = NL at *
      by_cases full : NL.length = 200
      · rw [full, if_pos (show I ((200 : Nat) : Int) = (200 : Int32) from rfl)]
        have big : ¬ (DL ++ nwL Y gi (yHg Y)).length ≤ 200 := by
          have e : DL ++ nwL Y gi (yHg Y) = NL ++ [(gi, Y, ρ)] ++ nwL Y gi ((yHg Y).drop (k + 1)) := by
            rw [← apD, List.append_assoc, ← nwL_app, List.take_append_drop]
          rw [e, List.length_append, List.length_append, List.length_singleton]
          omega
        rw [if_neg big]
        exact ⟨T, rfl, fT, fun h => absurd h big⟩
      · rw [if_neg (by rw [show (200 : Int32) = I ((200 : Nat) : Int) from rfl, I_eqN (by omega) (by omega)]; exact full), I_suc]
        simp only [bnd]
        have fU : nF p1 S (uI T p1 0 (I ((NL.length + 1 : Nat) : Int))) := by
          refine fT.trans ⟨⟨fun j _ => ?_, rfl, rfl, fun x h1 h2 => ?_⟩, ?_, ?_⟩
          · rw [sI_row _ _ _ (by omega)]
          · simp only [List.mem_cons, List.not_mem_nil, or_false] at h2
            exact (by repeat' (first | exact Sm.rfl | (refine Sm.uI ?_ (by omega)) | (refine Sm.uA ?_ (by omega)) | (refine Sm.uJ ?_ (by omega)) | (refine Sm.uL ?_ (by omega)) | (refine Sm.uR ?_ (by omega))))
          · rw [sI_ne _ _ _ (by omega)]
          · rw [sI_ne _ _ _ (by omega)]
        obtain ⟨T', V', t0, t1, t2, t3, t4, t5, t6, t7⟩ := r_lo84 (sh := sh) (T := uI T p1 0 (I ((NL.length + 1 : Nat) : Int))) (gi := gi) hf ok rl rb R hk (show NL.length < 200 by omega) fU (fun x τ hx e => (mk x τ hx).mpr (fun j σ jk hj e2 => un j σ jk hj (Eqv.trans nd G e2 (Eqv.symm nd G e)))) (F_X12_listsOf_L32 sh f 94 p1 nf)
        rw [t0]
        refine ih (k + 1) nf T' (by omega) (by omega) t1 ?_ (by rw [apD, List.length_append, List.length_singleton]; omega) ?_
        · rw [apD]
          refine ⟨?_, ?_, fun i d hd => ?_⟩
          · rw [t2, sI_self, List.length_append, List.length_singleton]
          · rw [t3, sI_ne _ _ _ (by omega), ls.2.1, I_add, osum_app]
            rfl
          · by_cases q : i = NL.length
            · subst q
              rw [List.getElem?_append_right (Nat.le_refl _), Nat.sub_self] at hd
              have : (gi, Y, ρ) = d := by simpa using hd
              rw [← this]
              exact t4
            · have lt : i < NL.length := by
                have := (List.getElem?_eq_some_iff.mp hd).1
                rw [List.length_append, List.length_singleton] at this
                omega
              rw [List.getElem?_append_left lt] at hd
              obtain ⟨e1, e2, e3, e4⟩ := ls.2.2 i d hd
              obtain ⟨u1, u2, u3, u4⟩ := t5 i q
              have dv : yV d.2.1 ≤ 3 := by
                have dm := List.mem_of_getElem? hd
                rw [← hN, List.mem_append] at dm
                rcases dm with dm | dm
                · exact h3 d dm
                · unfold nwL at dm
                  rw [List.mem_map] at dm
                  obtain ⟨σ, _, rfl⟩ := dm
                  exact v3.2
              exact ⟨fun p hp' => (u1 p (by omega)).trans (e1 p hp'), u2.trans e2, u3.trans e3, u4.trans e4⟩
        · intro x τ hx
          have xl := (List.getElem?_eq_some_iff.mp hx).1
          rw [t7 x xl]
          have eV : x ∈ V' ↔ yEq Y ρ τ := by
            rw [t6]
            constructor
            · rintro ⟨σ, a, b⟩
              rw [hx] at a
              rw [Option.some.inj a]
              exact b
            · intro e
              exact ⟨τ, hx, e⟩
          by_cases v : x ∈ V'
          · rw [if_pos v]
            constructor
            · intro e
              exact absurd e (I_nn _ (by omega))
            · intro h
              exact absurd (eV.mp v) (h k ρ (by omega) hk)
          · rw [if_neg v]
            show sA T 138 x = -1 ↔ _
            rw [mk x τ hx]
            constructor
            · intro h j σ jk hj
              by_cases q : j = k
              · subst q
                rw [hk] at hj
                rw [← Option.some.inj hj]
                exact fun e => v (eV.mpr e)
              · exact h j σ (by omega) hj
            · intro h j σ jk hj
              exact h j σ (by omega) hj
    · have m0 : ¬ sA T (94 + 44) k = -1 := m
      have un : ¬ yLst Y ρ := fun h => m (mk'.mpr ((fst_lst ok hk).mp h))
      have kp : ¬ kpr Y ρ = true := fun h => un (kpr_iff.mp h).2
      rw [if_neg kp, List.append_nil] at ap
      rw [if_neg m0]
      simp only [bnd, I_suc]
      refine ih (k + 1) nf T (by omega) (by omega) fT (by rw [ap]; exact ls) (by rw [ap]; exact le) (fun x τ hx => ?_)
      rw [mk x τ hx]
      constructor
      · intro h j σ jk hj e
        by_cases q : j = k
        · subst q
          rw [hk] at hj
          have es := Option.some.inj hj
          subst es
          apply m
          rw [mk']
          intro i υ ij hi e2
          exact h i υ ij hi (Eqv.trans nd G e2 e)
        · exact h j σ (by omega) hj e
      · intro h j σ jk hj
        exact h j σ (by omega) hj
abbrev wC (p1 : Nat) : List Nat := [132, 133, 134, 135, 136, 137, 138, 139, 140, 141, 142, p1, p1 + 3, p1 + 4, p1 + 5, p1 + 6]
def wF (p1 : Nat) (S T : St) : Prop := fr [25, 26, 35, 38] (wC p1) S T ∧ sI T p1 1 = sI S p1 1 ∧ sI T p1 2 = sI S p1 2
theorem wF.rfl : wF p1 S S := ⟨fr.rfl, Eq.refl _, Eq.refl _⟩
theorem wF.trans {T U : St} (h : wF p1 S T) (g : wF p1 T U) : wF p1 S U := ⟨h.1.trans g.1, g.2.1.trans h.2.1, g.2.2.trans h.2.2⟩
theorem wF_n {T : St} (h : nF p1 S T) : wF p1 S T := ⟨h.1.mono (by decide) (fun x hx => by simp only [List.mem_cons, List.not_mem_nil, or_false] at hx ⊢; omega), h.2.1, h.2.2⟩
theorem wF_fr {cs fs : List Nat} {T : St} (hp : p1 = 111 ∨ p1 = 118 ∨ p1 = 125) (g : fr fs cs S T) (b : ∀ x, x ∈ fs → x ∈ [25, 26, 35, 38]) (a : ∀ x, x ∈ cs → x ∈ [132, 133, 134, 135, 136, 137, 138, 139, 140, 141, 142]) : wF p1 S T := by
  have n : ¬ p1 ∈ cs := fun h => by
    have := a p1 h
    simp only [List.mem_cons, List.not_mem_nil, or_false] at this
    omega
  exact ⟨g.mono b (fun x hx => by have := a x hx; simp only [List.mem_cons, List.not_mem_nil, or_false] at this ⊢; omega), (g.2.2.2 p1 (by omega) n).I 1, (g.2.2.2 p1 (by omega) n).I 2⟩
theorem rLs_cg {T : St} {DL : List Dw} (hp : p1 = 111 ∨ p1 = 118 ∨ p1 = 125) (h : rLs S p1 DL) (g : ∀ x, x = p1 ∨ x = p1 + 3 ∨ x = p1 + 4 ∨ x = p1 + 5 ∨ x = p1 + 6 → Sm S T x) : rLs T p1 DL := by
  obtain ⟨h1, h2, h3⟩ := h
  refine ⟨((g p1 (by omega)).I 0).trans h1, ((g p1 (by omega)).I 3).trans h2, fun i d hd => ?_⟩
  obtain ⟨e1, e2, e3, e4⟩ := h3 i d hd
  exact ⟨fun p hp => ((g (p1 + 3) (by omega)).A _).trans (e1 p hp), ((g (p1 + 6) (by omega)).L _).trans e2, ((g (p1 + 5) (by omega)).A _).trans e3, ((g (p1 + 4) (by omega)).A _).trans e4⟩
/-- the chosen rules' drawings, behind those that are listed -/
theorem r_listsOf {gi : Nat} {DL : List Dw} (hf : 20000 ≤ f) (bo : bkOk (yB Y)) (hn : 1 ≤ yN Y ∧ yN Y ≤ 6) (hE : ∀ i, i < yN Y → yE Y i < bK (yB Y)) (v : 1 ≤ yV Y ∧ yV Y ≤ 3) (hu : ∀ p, p < yV Y → yU Y p < bR (yB Y)) (asc : ∀ p, p + 1 < yV Y → yU Y p ≤ yU Y (p + 1)) (R : spR sh S Y q p1) (ke : ∀ i, i < yN Y → sA S (p1 + 1) i = I (yE Y i)) (h3 : ∀ d, d ∈ DL → yV d.2.1 ≤ 3) (ls : rLs S p1 DL) (le : DL.length ≤ 200) : ∃ T', F_X12_listsOf sh f S 94 p1 = some (if (DL ++ (if yL Y ≤ 12 ∧ yL Y % 2 = 0 then nwL Y gi (yRows Y) else [])).length ≤ 200 then 1 else 0, T') ∧ wF p1 S T' ∧ ((DL ++ (if yL Y ≤ 12 ∧ yL Y % 2 = 0 then nwL Y gi (yRows Y) else [])).length ≤ 200 → rLs T' p1 (DL ++ (if yL Y ≤ 12 ∧ yL Y % 2 = 0 then nwL Y gi (yRows Y) else []))) ∧ ∀ a, sA T' 142 a = sA S 142 a := by
  have hp := R.2.2.2.2.2.2.2
  have R' := R
  obtain ⟨r1, r2, r3, r4, r5, r6, r7, r8⟩ := R'
  obtain ⟨r, U, u0, u1, u2, u3⟩ := r_lays (sh := sh) (f := f) (Y := Y) (p1 := p1) (p2 := 142) (n2 := 3) (q := q) (o := 0) (S := S) (by omega) v hu bo r2 (by unfold qOk at r3; exact ⟨by omega, fun x hx => by omega⟩) (by omega) (by omega) (by omega) (by omega) r6 r7 hn.2 ke r1 r4 (fun p hp => by rw [Nat.zero_add]; exact r5 p hp)
  have fU : fr [25, 26] [132, 133, 135] S U := ⟨fun j hj => u3.1 j (fun e => hj (by simp [e])) (fun e => hj (by simp [e])), (u3.2.1 94).2, (u3.2.1 94).1, fun x h1 h2 => u3.2.2 x h1 (fun e => h2 (by simp [e])) (fun e => h2 (by simp [e])) (fun e => h2 (by simp [e]))⟩
  have wU : wF p1 S U := wF_fr hp fU (by decide) (by decide)
  have u0' : F_X12_lays sh f S 94 p1 (94 + 48) 3 0 = some (r, U) := u0
  have sU : ∀ x, x = p1 ∨ x = p1 + 3 ∨ x = p1 + 4 ∨ x = p1 + 5 ∨ x = p1 + 6 → Sm S U x := fun x hx => u3.2.2 x (by omega) (by omega) (by omega) (by omega)
  unfold F_X12_listsOf
  rw [u0', Option.bind_some]
  by_cases c : yL Y ≤ 12 ∧ yL Y % 2 = 0
  · have ok : yOk Y := ⟨bo, hn, hE, v, hu, asc, c⟩
    obtain ⟨e1, rl⟩ := u1 c
    subst e1
    rw [if_neg (show ¬ (1 : Int32) = 0 by decide), if_pos c]
    have RU : spR sh U Y q p1 := ⟨(fU.R 5).trans r1, r2, r3, bkR_fr fU (by decide) r3 r4, fun p hp => (fU.A (by decide) (by decide) p).trans (r5 p hp), wU.2.1.trans r6, wU.2.2.trans r7, r8⟩
    obtain ⟨W, w0, w1, w2⟩ := r_pairs (sh := sh) (f := f) (Y := Y) (q := q) (by omega) ok r3 r2 ⟨rl, RU.1, RU.2.2.2.1⟩
    have wW : wF p1 U W := wF_fr hp w1 (by decide) (by decide)
    have rlW : rlC W Y := rlC_fr w1 rl (by decide) (by decide) (by decide) (by decide) (by decide)
    have RW : spR sh W Y q p1 := ⟨(w1.R 5).trans RU.1, r2, r3, bkR_fr w1 (by decide) r3 RU.2.2.2.1, fun p hp => (w1.A (by decide) (by decide) p).trans (RU.2.2.2.2.1 p hp), wW.2.1.trans RU.2.2.2.2.2.1, wW.2.2.trans RU.2.2.2.2.2.2.1, r8⟩
    have sW : ∀ x, x = p1 ∨ x = p1 + 3 ∨ x = p1 + 4 ∨ x = p1 + 5 ∨ x = p1 + 6 → Sm S W x := fun x hx => (sU x hx).trans (w1.2.2.2 x (by omega) (by simp only [List.mem_cons, List.not_mem_nil, or_false]; omega))
    have lsW := rLs_cg hp ls sW
    have nm := r_namings (sh := sh) (f := f) (S := W) (q := q) (p1 := p1) (by omega) ok RW
    have nm' : F_X12_namingsOf sh f W 94 p1 (94 + 48) 3 0 = some (I (yNa Y)) := nm
    rw [w0, Option.bind_some, nm', Option.bind_some, nwL_hg ok]
    obtain ⟨X, x0, x1, x2⟩ := r_lo32 (sh := sh) (gi := gi) (DL := DL) hf ok rlW ⟨w2.1, fun i ρ e => (w2.2 i ρ e).1⟩ RW h3 (yHg Y).length 0 f W (by omega) (by have := yHg_len ok; omega) nF.rfl (by rw [List.take_zero]; show rLs W p1 (DL ++ []); rw [List.append_nil]; exact lsW) (by rw [List.take_zero]; show (DL ++ []).length ≤ 200; rw [List.append_nil]; exact le) (fun x ρ hx => ⟨fun _ j τ hj => by omega, fun _ => (w2.2 x ρ hx).2⟩)
    have x0' : F_X12_listsOf_L32 sh f 94 p1 f W (I (yNa Y)) 0 = _ := x0
    rw [x0']
    exact ⟨X, rfl, (wU.trans wW).trans (wF_n x1), x2, fun a => (x1.1.A (by decide) (nC_no hp (by omega)) a).trans ((w1.A (by decide) (by decide) a).trans (fU.A (by decide) (by decide) a))⟩
  · have e1 := u2 c
    subst e1
    rw [if_pos rfl, if_neg c, List.append_nil, if_pos le]
    exact ⟨U, rfl, wU, fun _ => rLs_cg hp ls sU, fun a => fU.A (by decide) (by decide) a⟩
end AIa
