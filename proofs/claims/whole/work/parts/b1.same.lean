section B1a
variable {sh : List Sh} {S : St} {p : PC} {q : Option Nat} {w : Nat} {X : NS} {f : Nat}
theorem st_same (h : inv sh S p q w X) (hf : 20000 ≤ f) (x : Int32) (av : Nat → Int) (hav : ∀ j, j < 6 → -2147483648 ≤ av j ∧ av j < 2147483648) : ∃ v S1 S2, F_X8_same sh f S 0 x (I (av 0)) (I (av 1)) (I (av 2)) (I (av 3)) (I (av 4)) (I (av 5)) = some (v, S1) ∧ F_X12_same sh f S1 94 x (I (av 0)) (I (av 1)) (I (av 2)) (I (av 3)) (I (av 4)) (I (av 5)) = some (v, S2) ∧ inv sh S2 p q w X := by
  have h0 := h.1
  rcases st_ix (f := f) h x with ⟨a, b⟩ | ⟨V, i, d, l, v, rfl, hi, a, b⟩
  · refine ⟨-1, S, uI S 94 0 0, ?_, ?_, inv_u0 h 0⟩
    · unfold F_X8_same
      rw [a, Option.bind_some, if_pos rfl]
    · unfold F_X12_same
      simp only [bnd]
      rw [b _ (sI_ne _ _ _ (by omega)) (by repeat' (first | exact Sm.rfl | (refine Sm.uI ?_ (by omega)) | (refine Sm.uA ?_ (by omega)) | (refine Sm.uJ ?_ (by omega)) | (refine Sm.uL ?_ (by omega)) | (refine Sm.uR ?_ (by omega)))), Option.bind_some, if_pos rfl]
  obtain ⟨cc, e⟩ := enK_of v hi
  obtain ⟨z, hz, ck, qo, kr⟩ := q_some h0 v.2.1
  have ok := e.2.2.2.2.1
  have L12 := ok.2.2.2.2.2.2.1
  have Lev := ok.2.2.2.2.2.2.2
  have i200 := e.1
  have d20 := e.2.1
  have V3 := v.1
  have yv : yV d.2.1 = V := by rw [e.2.2.2.1]; rfl
  have yb : yB d.2.1 = xB X := by rw [e.2.2.2.1]; rfl
  have yn : yN d.2.1 = xN X := by rw [e.2.2.2.1]; rfl
  have ye : yE d.2.1 = xE X := by rw [e.2.2.2.1]; rfl
  have nb : ¬ (I (i : Int) < 0 ∨ 200 ≤ i) := I_bnd i200 (by omega)
  have nd : ¬ (I (d.1 : Int) < 0 ∨ 20 ≤ d.1) := I_bnd d20 (by omega)
  have a4 : sA S (p.2.2.1 + 4) i = I d.1 := e.2.2.2.2.2.2.2.1.2.2.2.1
  have lo : F_X3_legsOf sh f S p.2.2.1 (I i) = some (I (yL d.2.1)) := by
    unfold F_X3_legsOf
    rw [I_clN (by omega), if_neg nb, a4, I_clN (by omega), if_neg nd, e.2.2.2.2.2.2.2.2.1.2.1]
  have co : F_X3_codeOf sh f S p.2.2.1 (I i) = some (I cc) := by
    unfold F_X3_codeOf
    rw [I_clN (by omega), if_neg nb, a4, I_clN (by omega), if_neg nd, e.2.2.2.2.2.2.2.2.1.1]
  have r11 := h0.2.1.2.2.1
  have r10 := h0.2.1.1
  have g3 := (gp_sh h0).1
  have bp : p.1 = 3 ∨ p.1 = 61 := by have := h0.2.2.1.1; omega
  have b3 : ckX0 sh p.1 = true := sh0 h0.1 bp
  have s16 : sI S p.2.2.1 16 = I V := e.2.2.2.2.2.2.2.2.2.1
  obtain ⟨en1, en2, en3, en4, en5⟩ := h0.2.2.2.2.2.2.2.1
  have kbo := h0.2.2.2.2.2.2.1
  have n2 : 2 ≤ xN X := (en4 v.2.1).1
  generalize hτ : tlR av (yL d.2.1) = τ
  have τo : ∀ x, ¬ x < yL d.2.1 → τ x = 99 := by rw [← hτ]; exact tlR_o av (yL d.2.1)
  -- the class
  have cls : ∃ v S1, F_X8_same sh f S 0 (I i) (I (av 0)) (I (av 1)) (I (av 2)) (I (av 3)) (I (av 4)) (I (av 5)) = some (v, S1) ∧ jnC S1 (fun _ _ => 0) ∧ (∀ x, x < 14 ∨ 22 < x → Sm S S1 x) ∧ (¬ (gdB av (yL d.2.1) 6 = true ∧ τ ∈ yHg d.2.1) → v = -2) ∧ (gdB av (yL d.2.1) 6 = true → τ ∈ yHg d.2.1 → ∃ (j0 : Nat) (d0 : Dw), v = I j0 ∧ (xD X V)[j0]? = some d0 ∧ d0.1 = d.1 ∧ yEq d.2.1 d0.2.2 τ) := by
    unfold F_X8_same
    rw [a, Option.bind_some, if_neg (show ¬ (1 : Int32) = 0 by decide), r11, Option.bind_some, if_pos g3, lo, Option.bind_some, c_pack6 L12 Lev hav]
    by_cases gd : gdB av (yL d.2.1) 6 = true
    · have tl := (gd_tl L12 Lev).mp gd
      rw [hτ] at tl
      have pk : pkV av (yL d.2.1) 6 = J (e12 τ) := by
        unfold pkV
        rw [if_pos gd, show min (2 * 6) (yL d.2.1) = yL d.2.1 by omega, prm_all (tlR_o av _), hτ]
      have l1 := e12_lt τ
      have q1 : (0 : Int32) ≤ lg_cmp (J (e12 τ)) 0 := by
        rw [← I_nlt, show (0 : Int64) = J ((0 : Nat) : Int) from rfl, lgc_lt (by omega) (by omega)]
        omega
      have okC' : yOk (yC (xB X) (xN X) (xE X) V cc) := by rw [← e.2.2.2.1]; exact ok
      obtain ⟨S1, s0, s1, s2⟩ := c_leastOf (sh := sh) (f := f) (S := S) (τ := τ) (b := p.1) (e := 44) (n := xN X) (V := V) (c := cc) (B := xB X) (ek := xE X) (by omega) kbo.2.1 kbo.1 bp rfl ⟨by omega, en1⟩ en2 (fun i hi => ⟨(en5 i hi).1, (en5 i hi).2.2.2.1⟩) V3 e.2.2.1 okC' h.2.1 (by rw [← e.2.2.2.1]; exact tl.2)
      have s0' : F_X5_leastOf sh f S (0 + 13) p.1 (0 + 44) (I V) (I cc) (J (e12 τ)) = _ := s0
      rw [← e.2.2.2.1] at s0'
      rw [pk, if_pos q1, r10, Option.bind_some, if_pos b3, Option.bind_some, if_pos g3, Option.bind_some, if_pos g3, co, Option.bind_some, s16, s0', Option.bind_some]
      simp only [bnd]
      by_cases pr : prB d.2.1 τ = true
      · have hg : τ ∈ yHg d.2.1 := (yHg_mem ok).mpr ⟨(prB_iff.mp pr).1, τo, (prB_iff.mp pr).2⟩
        obtain ⟨σ, h1, h2, h3, h4⟩ := least_ex ok hg
        obtain ⟨cb, kk, cg, cl'⟩ := enK_cc v e hi
        have lsσ : (d.1, d.2.1, σ) ∈ xD X V := by
          have := dls_in (B := xB X) (n := xN X) (ek := xE X) (V := V) (4 ^ V) cc cb kk σ (by rw [← e.2.2.2.1]; exact h1) (by rw [← e.2.2.2.1]; exact h2)
          rw [← e.2.2.2.1, ← cl'] at this
          exact this
        obtain ⟨j0, hj0⟩ := List.getElem?_of_mem lsσ
        have l2 := e12_lt σ
        have q2 : (0 : Int32) ≤ lg_cmp (J (e12 σ)) 0 := by
          rw [← I_nlt, show (0 : Int64) = J ((0 : Nat) : Int) from rfl, lgc_lt (by omega) (by omega)]
          omega
        have vS1 : liV S1 p.2.2.1 X V := by
          have := pg h0
          exact liV_sm v rfl rfl rfl (fun x a b => s2 x (by omega)) (fun x a b => s2 x (by omega))
        obtain ⟨cc1, e1⟩ := enK_of vS1 hi
        have fd := c_findD (sh := sh) (f := f) vS1 e1 hi h1 hj0 rfl rfl j0 0 f (by omega) (by have := (List.getElem?_eq_some_iff.mp hj0).1; have := v.2.2.1; omega)
        have fd' : F_X3_find sh f S1 p.2.2.1 (I d.1) (J (e12 σ)) = some (I j0) := fd
        have r11' : sR S1 0 11 = some p.2.2.1 := ((s2 0 (by omega)).R 11).trans r11
        have go : F_X3_groupOf sh f S1 p.2.2.1 (I i) = some (I d.1) := by
          unfold F_X3_groupOf
          rw [I_clN (by omega), if_neg nb]
          congr 1
          exact e1.2.2.2.2.2.2.2.1.2.2.2.1
        rw [if_pos pr, ← h4, if_pos q2, r11', Option.bind_some, if_pos g3, Option.bind_some, if_pos g3, go, Option.bind_some, fd', Option.bind_some]
        exact ⟨_, _, rfl, s1, s2, fun n => absurd ⟨gd, hg⟩ n, fun _ _ => ⟨j0, _, rfl, hj0, rfl, Eqv.symm List.nodup_range (y_Gp ok) h3⟩⟩
      · rw [if_neg pr, if_neg (by decide)]
        exact ⟨_, _, rfl, s1, s2, fun _ => rfl, fun _ hg => absurd (prB_iff.mpr ⟨((yHg_mem ok).mp hg).1, ((yHg_mem ok).mp hg).2.2⟩) pr⟩
    · have pk : pkV av (yL d.2.1) 6 = -1 := by
        unfold pkV
        rw [if_neg gd]
      rw [pk, if_neg (by decide)]
      exact ⟨_, _, rfl, h.2.1, fun _ _ => Sm.rfl, fun _ => rfl, fun g => absurd g gd⟩
  obtain ⟨v0, S1, c0, c1, c2, c3, c4⟩ := cls
  have hS1 := inv_22 h c1 c2
  have v1 : liV S1 p.2.2.1 X V := by
    have := pg h0
    exact liV_sm v rfl rfl rfl (fun x a b => c2 x (by omega)) (fun x a b => c2 x (by omega))
  -- the reference
  obtain ⟨cc1, e1⟩ := enK_of v1 hi
  have h1 := hS1.1
  have z5 : sR S1 94 5 = some z := h1.2.2.2.1.1.trans hz
  have kr1 : bkR S1 z (xB X) := bkR_sm kr (fun x a b => c2 x (by unfold qOk at qo; omega))
  have s111 : sI S1 111 1 = I V := v1.2.2.2.2.2.2.1
  have rU : ∀ a, a < V → sA S1 114 (3 * i + a) = I (yU d.2.1 a) := fun a ha => e1.2.2.2.2.2.2.2.2.2.2.1.1 a (by omega)
  have F0 : fr [0] [] S1 (uI S1 94 0 0) := fr.rfl.uI _ (by decide)
  obtain ⟨T1, t0, F1, t2⟩ := r_sm18 (sh := sh) (f := f) (p2 := I (av 0)) (p3 := I (av 1)) (p4 := I (av 2)) (p5 := I (av 3)) (p6 := I (av 4)) (p7 := I (av 5)) (V := V) (i := i) (S := uI S1 94 0 0) (U := yU d.2.1) i200 V3.2 (by rw [sI_row _ _ _ (by omega)]; exact s111) rU V 0 f _ (by omega) (by omega) fr.rfl (fun a ha => by omega)
  have G1 : fr [0] [142] S1 T1 := (F0.mono (by decide) (by decide)).trans (F1.mono (by decide) (by decide))
  have k1 : ∀ x, 111 ≤ x → x ≤ 117 → Sm S1 T1 x := fun x a b => G1.2.2.2 x (by omega) (by simp only [List.mem_cons, List.not_mem_nil, or_false]; omega)
  obtain ⟨r, T2, u0, u1, u2, u3⟩ := r_lays (sh := sh) (f := f) (Y := d.2.1) (p1 := 111) (p2 := 142) (n2 := 3) (q := z) (o := 0) (S := T1) (by omega) ok.2.2.2.1 ok.2.2.2.2.1 ok.1 ck (by unfold qOk at qo; exact ⟨by omega, fun x hx => by omega⟩) (by omega) (by omega) (by omega) (by omega) (by rw [yv]; exact ((k1 111 (by omega) (by omega)).I 1).trans s111) (by rw [yn]; exact ((k1 111 (by omega) (by omega)).I 2).trans v1.2.2.2.2.2.2.2.1) ok.2.1.2 (fun x hx => by rw [ye]; exact ((k1 112 (by omega) (by omega)).A x).trans (v1.2.2.2.2.2.2.2.2 x (by omega))) ((G1.R 5).trans z5) (bkR_fr G1 (by decide) qo (by rw [yb]; exact kr1)) (fun a ha => by rw [Nat.zero_add]; exact t2 a (by omega))
  obtain ⟨r1, rl⟩ := u1 ok.2.2.2.2.2.2
  subst r1
  have F2 : fr [25, 26] [132, 133, 134, 135] T1 T2 := ⟨fun j hj => u3.1 j (fun e => hj (by simp [e])) (fun e => hj (by simp [e])), (u3.2.1 94).2, (u3.2.1 94).1, fun x h1 h2 => u3.2.2 x h1 (fun e => h2 (by simp [e])) (fun e => h2 (by simp [e])) (fun e => h2 (by simp [e]))⟩
  generalize hT3 : uA (uA (uA (uA (uA (uA T2 143 0 (I (av 0))) 143 1 (I (av 1))) 143 2 (I (av 2))) 143 3 (I (av 3))) 143 4 (I (av 4))) 143 5 (I (av 5)) = T3
  have F3 : fr [] [143] T2 T3 := by
    rw [← hT3]
    exact (((((fr.rfl.uA _ _ (by decide)).uA _ _ (by decide)).uA _ _ (by decide)).uA _ _ (by decide)).uA _ _ (by decide)).uA _ _ (by decide)
  have tl3 : ∀ j, j < 6 → sA T3 143 j = I (av j) ∧ -2147483648 ≤ av j ∧ av j < 2147483648 := fun j hj => by
    refine ⟨?_, hav j hj⟩
    rw [← hT3]
    rcases (by omega : j = 0 ∨ j = 1 ∨ j = 2 ∨ j = 3 ∨ j = 4 ∨ j = 5) with rfl | rfl | rfl | rfl | rfl | rfl <;> simp [sA_uA, up1_if]
  have u0' : F_X12_lays sh f T1 94 (94 + 17) (94 + 48) 3 0 = some (1, T2) := u0
  have h25 : sI T3 94 25 = I (yL d.2.1) := (F3.I (by decide)).trans rl.1
  have first : F_X12_same sh f S1 94 (I i) (I (av 0)) (I (av 1)) (I (av 2)) (I (av 3)) (I (av 4)) (I (av 5)) = F_X12_same_L121 sh f 94 (I i) (I (av 0)) (I (av 1)) (I (av 2)) (I (av 3)) (I (av 4)) (I (av 5)) f T3 0 := by
    unfold F_X12_same
    simp only [bnd]
    rw [b _ ((sI_ne _ _ _ (by omega)).trans ((c2 94 (by omega)).I 18)) ((c2 111 (by omega)).trans (by repeat' (first | exact Sm.rfl | (refine Sm.uI ?_ (by omega)) | (refine Sm.uA ?_ (by omega)) | (refine Sm.uJ ?_ (by omega)) | (refine Sm.uL ?_ (by omega)) | (refine Sm.uR ?_ (by omega))))), Option.bind_some, if_neg (show ¬ (1 : Int32) = 0 by decide)]
    have t0' : F_X12_same_L18 sh f 94 (I i) (I (av 0)) (I (av 1)) (I (av 2)) (I (av 3)) (I (av 4)) (I (av 5)) f (uI S1 94 0 0) 0 = _ := t0
    have s1' : sI T1 (94 + 17) 1 = I V := ((k1 111 (by omega) (by omega)).I 1).trans s111
    rw [t0', F_X12_same_L18, if_pos (by rw [s1', I_leN (by omega) (by omega)]; omega), u0', Option.bind_some, ← hT3]
    simp only [bnd]
    rw [if_neg (by decide), if_neg (by decide), if_neg (by decide), if_neg (by decide), if_neg (by decide), if_neg (by decide)]
    rfl
  obtain ⟨T4, F4, alt⟩ := r_sm121 (sh := sh) (f := f) (p1 := I i) (p2 := I (av 0)) (p3 := I (av 1)) (p4 := I (av 2)) (p5 := I (av 3)) (p6 := I (av 4)) (p7 := I (av 5)) (L := yL d.2.1) (av := av) (T0 := T3) L12 h25 tl3 (yL d.2.1) 0 f T3 (by omega) (by omega) fr.rfl (fun x hx => by omega)
  have G4 : fr [0, 25, 26] [132, 133, 134, 135, 142, 143] S1 T4 := (((G1.mono (by decide) (by decide)).trans (F2.mono (by decide) (by decide))).trans (F3.mono (by decide) (by decide))).trans (F4.mono (by decide) (by decide))
  have i4 : inv sh T4 p q w X := fr_inv hS1 G4 (by decide) (by decide)
  rcases alt with ⟨g4, eq4⟩ | ⟨⟨x, x1, x2⟩, eq4⟩
  · have r134 : ∀ x, x < yL d.2.1 → sA T4 134 x = I (τ x) ∧ τ x < 2147483648 := fun x hx => by
      have tx : τ x = dgN av x := by rw [← hτ]; unfold tlR; rw [if_pos hx]
      obtain ⟨z1, z2⟩ := g4 x hx
      have := (hav (x / 2) (by omega)).2
      rw [tx]
      refine ⟨z2, ?_⟩
      unfold dgN
      by_cases c : x % 2 = 0
      · rw [if_pos c]; omega
      · rw [if_neg c]; omega
    have h25' : sI T4 94 25 = I (yL d.2.1) := (F4.I (by decide)).trans h25
    rcases r_sm185 (sh := sh) (f := f) (p1 := I i) (p2 := I (av 0)) (p3 := I (av 1)) (p4 := I (av 2)) (p5 := I (av 3)) (p6 := I (av 4)) (p7 := I (av 5)) (τ := τ) L12 h25' r134 (yL d.2.1) 0 f (by omega) (by omega) (fun x hx => by omega) with ⟨gd, eq5⟩ | ⟨⟨x, x1, x2⟩, eq5⟩
    · have gdt : gdB av (yL d.2.1) 6 = true := (gd_tl L12 Lev).mpr ⟨fun x hx => (g4 x hx).1, fun x hx => by rw [hτ]; exact (gd x hx).1⟩
      have rl4 : rlC T4 d.2.1 := rlC_fr (fs := []) (cs := [134, 143]) ((F3.mono (by decide) (by decide)).trans (F4.mono (by decide) (by decide))) rl (by decide) (by decide) (by decide) (by decide) (by decide)
      have z54 : sR T4 94 5 = some z := (G4.R 5).trans z5
      have kr4 : bkR T4 z (yB d.2.1) := bkR_fr G4 (by decide) qo (by rw [yb]; exact kr1)
      have rh := r_rowHere (sh := sh) (f := f) (by omega) L12 h25' (fun x hx => ⟨(r134 x hx).1, by have := (gd x hx).1; omega⟩)
      rw [prm_all τo] at rh
      obtain ⟨T5, w0, F5, w1⟩ := r_pairs (sh := sh) (f := f) (S := T4) (by omega) ok qo ck ⟨rl4, z54, kr4⟩
      have G5 : fr [0, 25, 26, 35] [132, 133, 134, 135, 136, 137, 138, 142, 143] S1 T5 := (G4.mono (by decide) (by decide)).trans (F5.mono (by decide) (by decide))
      have rb5 : RB T5 (yHg d.2.1) := ⟨w1.1, fun x ρ hx => (w1.2 x ρ hx).1⟩
      have l1 := e12_lt τ
      have eq5' : F_X12_same_L185 sh f 94 (I i) (I (av 0)) (I (av 1)) (I (av 2)) (I (av 3)) (I (av 4)) (I (av 5)) f T4 0 = _ := eq5
      have eq4' : F_X12_same_L121 sh f 94 (I i) (I (av 0)) (I (av 1)) (I (av 2)) (I (av 3)) (I (av 4)) (I (av 5)) f T3 0 = _ := eq4
      by_cases hg : τ ∈ yHg d.2.1
      · obtain ⟨j0, d0, e0, hj0, g0, q0⟩ := c4 gdt hg
        obtain ⟨at', hat⟩ := List.getElem?_of_mem hg
        have atl := (List.getElem?_eq_some_iff.mp hat).1
        have hgl := yHg_len ok
        have jl := (List.getElem?_eq_some_iff.mp hj0).1
        have l200 := v.2.2.1
        have ra := r_rowAt (sh := sh) (f := f) (by omega) ok rb5 (v := e12 τ) (by omega) (r := I at') (Or.inl ⟨at', τ, hat, rfl, rfl⟩)
        have rl5 : rlC T5 d.2.1 := rlC_fr F5 rl4 (by decide) (by decide) (by decide) (by decide) (by decide)
        have k5 : ∀ x, 111 ≤ x → x ≤ 117 → Sm S1 T5 x := fun x a b => G5.2.2.2 x (by omega) (by simp only [List.mem_cons, List.not_mem_nil, or_false]; omega)
        have c142 : ∀ a, a < yV d.2.1 → sA T5 142 a = I (yU d.2.1 a) := fun a ha => by
          rw [F5.A (by decide) (by decide), F4.A (by decide) (by decide), F3.A (by decide) (by decide), F2.A (by decide) (by decide)]
          exact t2 a (by omega)
        have R5 : spR sh T5 d.2.1 z 111 := ⟨(F5.R 5).trans z54, ck, qo, bkR_fr F5 (by decide) qo kr4, c142, by rw [yv]; exact ((k5 111 (by omega) (by omega)).I 1).trans s111, by rw [yn]; exact ((k5 111 (by omega) (by omega)).I 2).trans v1.2.2.2.2.2.2.2.1, Or.inl rfl⟩
        obtain ⟨T6, x0, F6⟩ := r_sm276 (sh := sh) (f := f) (p1 := I i) (p2 := I (av 0)) (p3 := I (av 1)) (p4 := I (av 2)) (p5 := I (av 3)) (p6 := I (av 4)) (p7 := I (av 5)) hf v1 e1 hi k5 rl5 rb5 R5 hat hj0 g0 q0 j0 0 f T5 (by omega) (by omega) fr.rfl (fun x ρ hx _ => (w1.2 x ρ hx).2)
        have x0' : F_X12_same_L276 sh f 94 (I i) (I (av 0)) (I (av 1)) (I (av 2)) (I (av 3)) (I (av 4)) (I (av 5)) f T5 (I at') 0 = _ := x0
        refine ⟨v0, S1, T6, c0, ?_, fr_inv hS1 ((G5.mono (by decide) (by decide)).trans (F6.mono (by decide) (by decide)) : fr [0, 25, 26, 35, 38] [132, 133, 134, 135, 136, 137, 138, 139, 140, 141, 142, 143] S1 T6) (by decide) (by decide)⟩
        rw [first, eq4', eq5', F_X12_same_L185, if_pos (by rw [h25', I_leN (by omega) (by omega)]; omega), rh, Option.bind_some, w0, Option.bind_some, ra, Option.bind_some, if_neg (show ¬ I (at' : Int) = (-1 : Int32) by rw [show (-1 : Int32) = I (-1) from rfl, I_eq (by omega) (by omega)]; omega), x0', e0]
      · have ra := r_rowAt (sh := sh) (f := f) (by omega) ok rb5 (v := e12 τ) (by omega) (r := -1) (Or.inr ⟨fun ρ hρ eρ => by
          have r1 := (yHg_mem ok).mp hρ
          have a1 := row16 L12 (fun i hi => (yRw_lt r1.1 hi).1)
          have a2 := row16 L12 (fun i hi => (gd i hi).1)
          have e2 := (e12_le L12 a1 (fun i hi => r1.2.1 i (by omega)) a2 (fun i hi => τo i (by omega))).2.mp eρ
          have e3 := eN_inj a1 a2 e2
          have : ρ = τ := by
            funext x
            by_cases c : x < yL d.2.1
            · exact e3 x c
            · rw [r1.2.1 x c, τo x c]
          rw [← this] at hg
          exact hg hρ, rfl⟩)
        refine ⟨v0, S1, T5, c0, ?_, fr_inv hS1 G5 (by decide) (by decide)⟩
        rw [first, eq4', eq5', F_X12_same_L185, if_pos (by rw [h25', I_leN (by omega) (by omega)]; omega), rh, Option.bind_some, w0, Option.bind_some, ra, Option.bind_some, if_pos rfl, c3 (fun q => hg q.2)]
    · refine ⟨v0, S1, T4, c0, ?_, i4⟩
      have eq5' : F_X12_same_L185 sh f 94 (I i) (I (av 0)) (I (av 1)) (I (av 2)) (I (av 3)) (I (av 4)) (I (av 5)) f T4 0 = _ := eq5
      have eq4' : F_X12_same_L121 sh f 94 (I i) (I (av 0)) (I (av 1)) (I (av 2)) (I (av 3)) (I (av 4)) (I (av 5)) f T3 0 = _ := eq4
      rw [first, eq4', eq5', c3 (fun q => x2 (by
        obtain ⟨y1, y2, y3, y4⟩ := yRw_lt ((yHg_mem ok).mp q.2).1 x1
        exact ⟨y1, y3, y2⟩))]
  · refine ⟨v0, S1, T4, c0, ?_, i4⟩
    have eq4' : F_X12_same_L121 sh f 94 (I i) (I (av 0)) (I (av 1)) (I (av 2)) (I (av 3)) (I (av 4)) (I (av 5)) f T3 0 = _ := eq4
    rw [first, eq4', c3 (fun q => x2 (((gd_tl L12 Lev).mp q.1).1 x x1))]
end B1a
