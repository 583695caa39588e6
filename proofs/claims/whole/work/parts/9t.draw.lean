section T9t
variable {sh : List Sh} {f : Nat} {g b gi : Nat} {Y : Ly}
def dIv (S : St) (g b gi : Nat) (Y : Ly) : Prop := lyC S 14 Y ∧ bkC S b (yB Y) ∧ jnC S (fun _ _ => 0) ∧ sR S 13 2 = some g ∧ sI S g 18 = I ((gi + 1 : Nat) : Int)
theorem dIv_lf {S S' : St} (h : dIv S g b gi Y) (hb : b = 3 ∨ b = 61) (hG : g = 23 ∨ g = 71) (k : lfB S S' g gi Y) (j : jnC S' (fun _ _ => 0)) : dIv S' g b gi Y := by
  obtain ⟨h1, h2, h3, h4, h5⟩ := h
  exact ⟨lyC_sm h1 (fun x _ _ => k.1 x (by omega) (by omega) (by omega)), bkC_sm h2 (fun x _ _ => k.1 x (by omega) (by omega) (by omega)), j, ((k.1 13 (by omega) (by omega) (by omega)).R 2).trans h4, (k.2.1 18 (by omega) (by omega)).trans h5⟩
def dHd (DL : List Dw) (gi : Nat) (Y : Ly) : Prop := ∀ d, d ∈ DL → d.1 = gi → d.2.1 = Y ∧ yRw Y d.2.2 ∧ ∀ i, i < yN Y → yN Y ≤ d.2.2 i
noncomputable def nwL (Y : Ly) (gi : Nat) (L : List (Nat → Nat)) : List Dw := (L.filter (kpr Y)).map (fun ρ => (gi, Y, ρ))
theorem nwL_app (A B : List (Nat → Nat)) : nwL Y gi (A ++ B) = nwL Y gi A ++ nwL Y gi B := by
  unfold nwL
  rw [List.filter_append, List.map_append]
theorem nwL_nil (A : List (Nat → Nat)) (h : ∀ ρ, ρ ∈ A → ¬ (cn Y ρ ∧ yLst Y ρ)) : nwL Y gi A = [] := by
  unfold nwL
  rw [List.filter_eq_nil_iff.mpr (fun ρ hρ e => h ρ hρ (kpr_iff.mp e)), List.map_nil]
theorem GA_more {S : St} {DL E : List Dw} (h : GA S g DL) (l : 200 < DL.length) : GA S g (DL ++ E) := ⟨fun q => by rw [List.length_append] at q; omega, fun _ => h.2 l⟩
theorem mkb_inl (L : Nat) (l : List Nat) (x : Nat) (h : ∀ x, x ∈ l → x < L) : (mkb (inl l) L).testBit x = decide (x ∈ l) := by
  rw [mkb_tb]
  unfold inl
  by_cases c : x ∈ l
  · rw [decide_eq_true (h x c), Bool.true_and]
  · rw [decide_eq_false c, Bool.and_false]
theorem mkb_tail {L i : Nat} {r : List Nat} (hL : L ≤ 12) (h : ∀ x, x ∈ i :: r → x < L) (srt : (i :: r).Pairwise (· < ·)) : mkb (inl (i :: r)) L &&& (mkb (inl (i :: r)) L - 1) = mkb (inl r) L ∧ tzN 12 (mkb (inl (i :: r)) L) = i ∧ mkb (inl (i :: r)) L ≠ 0 := by
  have hir := (List.pairwise_cons.mp srt).1
  have nir : ¬ i ∈ r := (List.nodup_cons.mp (pw_nd srt)).1
  have hi := h i (by simp)
  have t1 : (mkb (inl (i :: r)) L).testBit i = true := by rw [mkb_inl _ _ _ h, decide_eq_true (by simp)]
  have t0 : ∀ j, j < i → (mkb (inl (i :: r)) L).testBit j = false := by
    intro j hj
    rw [mkb_inl _ _ _ h, decide_eq_false]
    intro q
    rw [List.mem_cons] at q
    rcases q with q | q
    · omega
    · have := hir j q
      omega
  refine ⟨?_, tz_tb 12 _ i (by omega) t1 t0, fun e => ?_⟩
  · apply Nat.eq_of_testBit_eq
    intro j
    rw [and_pred t1 t0, mkb_inl _ _ _ h, mkb_inl _ _ _ (fun x hx => h x (List.mem_cons_of_mem _ hx))]
    by_cases c : j = i
    · subst c
      rw [decide_eq_false nir]
      simp
    · rw [decide_eq_true c, Bool.and_true, decide_eq_decide, List.mem_cons]
      exact ⟨fun q => q.resolve_left c, fun q => Or.inr q⟩
  · rw [e, Nat.zero_testBit] at t1
    exact absurd t1 (by decide)
theorem mkb_er1 {L j : Nat} {r : List Nat} (hL : L ≤ 12) (hj : j < 12) (nd : r.Nodup) (h : ∀ x, x ∈ r → x < L) : I (mkb (inl r) L : Int) &&& (((1 : Int32) <<< (I (j : Int) &&& 31)) ^^^ (-1)) = I (mkb (inl (r.erase j)) L : Int) := by
  have q : 2 ^ L ≤ 2 ^ 12 := Nat.pow_le_pow_right (by omega) hL
  have ml := mkb_lt (inl r) L
  have pj : 2 ^ j ≤ 2 ^ 11 := Nat.pow_le_pow_right (by omega) (by omega)
  rw [one_shl (by omega), I_andn (by omega) (by omega)]
  have e : mkb (inl r) L &&& (2 ^ j ^^^ 4294967295) = mkb (inl (r.erase j)) L := by
    apply Nat.eq_of_testBit_eq
    intro x
    rw [andn_tb (by omega), mkb_inl _ _ _ h, mkb_inl _ _ _ (fun x hx => h x (List.mem_of_mem_erase hx)), Nat.testBit_two_pow]
    by_cases c : j = x
    · subst c
      rw [decide_eq_true rfl, decide_eq_false (fun q => ((nd.mem_erase_iff).mp q).1 rfl)]
      simp
    · rw [decide_eq_false c, Bool.not_false, Bool.and_true, decide_eq_decide, nd.mem_erase_iff]
      exact ⟨fun q => ⟨fun e => c e.symm, q⟩, fun q => q.2⟩
  rw [e]
theorem fl_s {r : List Nat} (srt : r.Pairwise (· < ·)) (j : Nat) : r.filter (fun x => decide (x < j + 1)) = r.filter (fun x => decide (x < j)) ++ (if j ∈ r then [j] else []) := by
  induction r with
  | nil => rfl
  | cons y r ih =>
    have hy := (List.pairwise_cons.mp srt).1
    have ih := ih (List.pairwise_cons.mp srt).2
    have e1 : y ≤ j → r.filter (fun x => decide (x < j + 1)) = r.filter (fun x => decide (x < j)) ++ (if j ∈ r then [j] else []) := fun _ => ih
    rw [List.filter_cons, List.filter_cons]
    by_cases c : y < j
    · rw [if_pos (decide_eq_true (by omega)), if_pos (decide_eq_true c), ih, List.cons_append]
      congr 2
      have : (j ∈ y :: r) = (j ∈ r) := by
        rw [List.mem_cons]
        exact propext ⟨fun q => q.resolve_left (by omega), fun q => Or.inr q⟩
      simp only [this]
    · by_cases d : y = j
      · subst d
        rw [if_pos (decide_eq_true (by omega)), if_neg (by rw [decide_eq_false c]; decide), if_pos (by simp)]
        have n1 : r.filter (fun x => decide (x < y + 1)) = [] := List.filter_eq_nil_iff.mpr (fun x hx => by have := hy x hx; rw [decide_eq_true_eq]; omega)
        have n2 : r.filter (fun x => decide (x < y)) = [] := List.filter_eq_nil_iff.mpr (fun x hx => by have := hy x hx; rw [decide_eq_true_eq]; omega)
        rw [n1, n2]
        rfl
      · rw [if_neg (by rw [decide_eq_false (by omega)]; decide), if_neg (by rw [decide_eq_false c]; decide), ih]
        congr 1
        have : (j ∈ y :: r) = (j ∈ r) := by
          rw [List.mem_cons]
          exact propext ⟨fun q => q.resolve_left (by omega), fun q => Or.inr q⟩
        simp only [this]
theorem c_draw (hf : 1000 ≤ f) (ok : yOk Y) (hb : b = 3 ∨ b = 61) (hG : g = 23 ∨ g = 71) (ck : ckX3 sh g = true) (hgi : gi < 20) : ∀ (k : Nat) (l : List Nat) (π : Nat → Nat) (u : Nat) (sg : Int) (e dp : Nat) (S : St) (DL : List Dw), l.length = 2 * k → l.Pairwise (· < ·) → (∀ x, x ∈ l → x < yL Y) → Pr Y l π → u < 8 → (∀ x, x < yL Y → ¬ x ∈ l → yN Y ≤ x → u.testBit (yP Y x) = true) → (∀ ρ, ρ ∈ yLv Y k l π → sgR Y ρ = sg * sgL Y ρ k l) → k < e → dp + k ≤ 6 → dIv S g b gi Y → GA S g DL → dHd DL gi Y → ∃ S', F_X5_draw sh f e S 13 b (I (mkb (inl l) (yL Y))) (I u) (J (e12 π)) (I sg) (I dp) = some S' ∧ jnC S' (fun _ _ => 0) ∧ lfB S S' g gi Y ∧ GA S' g (DL ++ nwL Y gi (yLv Y k l π)) := by
  have L12 := ok.2.2.2.2.2.2.1
  intro k
  induction k with
  | zero =>
    intro l π u sg e dp S DL len srt hl p hu hu2 hsg he hdp iv ga hd
    obtain ⟨e, rfl⟩ : ∃ x, e = x + 1 := ⟨e - 1, by omega⟩
    have : l = [] := List.length_eq_zero_iff.mp (by omega)
    subst this
    have m0 : mkb (inl []) (yL Y) = 0 := by
      apply Nat.eq_of_testBit_eq
      intro x
      rw [mkb_inl _ _ _ hl, Nat.zero_testBit, decide_eq_false (by simp)]
    have lv0 : yLv Y 0 [] π = [π] := rfl
    have w : yRw Y π := fun i hi => by
      obtain ⟨a1, a2, a3, a4, a5, _⟩ := p.1 i (List.mem_range.mp hi) (by simp)
      exact ⟨List.mem_range.mpr a1, a3, a4, a5⟩
    have ne : ∀ i, i < yN Y → yN Y ≤ π i := fun i hi => by
      have := (p.1 i (by have := N_le ok; omega) (by simp)).2.2.2.2.2
      omega
    have sgE : sgR Y π = sg := by
      have := hsg π (by rw [lv0]; simp)
      rw [this, sgL, Int.mul_one]
    obtain ⟨i1, i2, i3, i4, i5⟩ := iv
    obtain ⟨S', s0, s1, s2, s3, s4⟩ := c_keep (sh := sh) hf i1 i2 hb ok w p.2.2 ne i3 hG i4 ck i5 hgi ga (fun d hd1 hd2 => by
      obtain ⟨e1, e2, e3⟩ := hd d hd1 hd2
      rw [e1]
      exact hv_same ok e2 e3 w ne)
    rw [sgE] at s0
    rw [F_X5_draw, m0, if_pos (show I ((0 : Nat) : Int) = 0 from rfl), s0, Option.bind_some]
    refine ⟨S', rfl, s1, s2, ?_⟩
    rw [lv0]
    unfold nwL
    by_cases c : kpr Y π = true
    · rw [List.filter_cons, if_pos c, List.filter_nil, List.map_cons, List.map_nil]
      exact s3 (kpr_iff.mp c)
    · rw [List.filter_cons, if_neg c, List.filter_nil, List.map_nil, List.append_nil]
      exact s4 (fun q => c (kpr_iff.mpr q))
  | succ k ih =>
    intro l π u sg e dp S DL len srt hl p hu hu2 hsg he hdp iv ga hd
    obtain ⟨e, rfl⟩ : ∃ x, e = x + 1 := ⟨e - 1, by omega⟩
    match l, len, srt, hl, p, hu2, hsg with
    | [], len, _, _, _, _, _ => simp at len
    | i :: r, len, srt, hl, p, hu2, hsg =>
      obtain ⟨t1, t2, t3⟩ := mkb_tail L12 hl srt
      have nd := pw_nd srt
      have ndr : r.Nodup := (List.nodup_cons.mp nd).2
      have nir : ¬ i ∈ r := (List.nodup_cons.mp nd).1
      have hsr := (List.pairwise_cons.mp srt).2
      have hir := (List.pairwise_cons.mp srt).1
      have hi := hl i (by simp)
      have hlr : ∀ x, x ∈ r → x < yL Y := fun x hx => hl x (List.mem_cons_of_mem _ hx)
      have q12 : 2 ^ yL Y ≤ 2 ^ 12 := Nat.pow_le_pow_right (by omega) L12
      have ml := mkb_lt (inl (i :: r)) (yL Y)
      have mr := mkb_lt (inl r) (yL Y)
      have z0 : ¬ I (mkb (inl (i :: r)) (yL Y) : Int) = 0 := by
        rw [show (0 : Int32) = I ((0 : Nat) : Int) from rfl, I_eqN (by omega) (by omega)]; exact t3
      have d6 : ¬ (6 : Int32) ≤ I dp := by
        rw [show (6 : Int32) = I ((6 : Nat) : Int) from rfl, I_leN (by omega) (by omega)]; omega
      have m1 : I (mkb (inl (i :: r)) (yL Y) : Int) - 1 = I ((mkb (inl (i :: r)) (yL Y) - 1 : Nat) : Int) := by
        rw [show (1 : Int32) = I 1 from rfl, I_sub]; congr 1; omega
      rw [F_X5_draw, if_neg z0, if_neg d6, iv.2.2.2.1, Option.bind_some, if_pos ck]
      by_cases big : 200 < DL.length
      · rw [(ga.2 big).1, if_neg (by decide)]
        exact ⟨S, rfl, iv.2.2.1, lfB.rfl, GA_more ga big⟩
      · rw [(ga.1 (by omega)).1, if_pos rfl, c_tz (by omega) t3, Option.bind_some, t2, m1]
        simp only [bnd]
        rw [I_and (by omega) (by omega), t1, I_suc]
        generalize hsub : (fun j => if okF (yK Y) (yFo Y) i j = true then yLv Y k (r.erase j) (up1 (up1 π i j) j i) else []) = sub
        have sj : ∀ j, sub j = if okF (yK Y) (yFo Y) i j = true then yLv Y k (r.erase j) (up1 (up1 π i j) j i) else [] := fun j => by rw [← hsub]
        have lvE : yLv Y (k + 1) (i :: r) π = r.flatMap sub := by rw [← hsub]; rfl
        have lp : ∀ (d j nf : Nat) (T : St), j + d = yL Y → d < nf → i < j → jnC T (fun _ _ => 0) → lfB S T g gi Y → GA T g (DL ++ nwL Y gi ((r.filter (fun x => decide (x < j))).flatMap sub)) → ∃ S', F_X5_draw_L51 sh f 13 b (I (mkb (inl (i :: r)) (yL Y))) (I u) (J (e12 π)) (I sg) (I dp) (F_X5_draw sh f e) nf T (I i) (I (mkb (inl r) (yL Y))) (I j) = some S' ∧ jnC S' (fun _ _ => 0) ∧ lfB S S' g gi Y ∧ GA S' g (DL ++ nwL Y gi (r.flatMap sub)) := by
          intro d
          induction d with
          | zero =>
            intro j nf T h1 h2 h3 jT fT gT
            obtain ⟨nf, rfl⟩ : ∃ x, nf = x + 1 := ⟨nf - 1, by omega⟩
            have jE : j = yL Y := by omega
            subst jE
            have ivT := dIv_lf iv hb hG fT jT
            have fe : r.filter (fun x => decide (x < yL Y)) = r := List.filter_eq_self.mpr (fun x hx => decide_eq_true (hlr x hx))
            rw [fe] at gT
            rw [F_X5_draw_L51]
            simp only [Nat.reduceAdd, ivT.1.2.2.1]
            rw [if_pos (by rw [I_leN (by omega) (by omega)]; omega)]
            exact ⟨T, rfl, jT, fT, gT⟩
          | succ d ihd =>
            intro j nf T h1 h2 h3 jT fT gT
            obtain ⟨nf, rfl⟩ : ∃ x, nf = x + 1 := ⟨nf - 1, by omega⟩
            have hj : j < yL Y := by omega
            have ivT := dIv_lf iv hb hG fT jT
            have c1 : ¬ I (yL Y : Int) ≤ I j := by rw [I_leN (by omega) (by omega)]; omega
            obtain ⟨v, v0, v1, v2⟩ := c_mayLead (sh := sh) (f := f) ivT.1 ok hi hj mr hu
            have fls := fl_s hsr j
            rw [F_X5_draw_L51]
            simp only [Nat.reduceAdd, ivT.1.2.2.1, if_neg c1]
            rw [v0, Option.bind_some]
            by_cases ml : mlP Y i j (mkb (inl r) (yL Y)) u
            · have jr : j ∈ r := by
                have := ml.1
                rw [mkb_inl _ _ _ hlr, decide_eq_true_eq] at this
                exact this
              have mj := ml.2.1
              have mj' := mj
              unfold yMj at mj'
              rw [decide_eq_true_eq] at mj'
              have okj : okF (yK Y) (yFo Y) i j = true := by
                unfold okF
                rw [beq_iff_eq]
                exact mj'.2.1
              have ij : i ≠ j := by omega
              have e99 : π i = 99 := p.2.1 i (by simp)
              have j99 : π j = 99 := p.2.1 j (List.mem_cons_of_mem _ jr)
              have row : (J (e12 π : Int) ||| J ((j * 16 ^ (11 - i) : Nat) : Int)) ||| J ((i * 16 ^ (11 - j) : Nat) : Int) = J (e12 (up1 (up1 π i j) j i) : Int) := by
                have e1 := e12_up (π := π) (i := i) (j := j) (by omega) (by omega) e99
                have e2 := e12_up (π := up1 π i j) (i := j) (j := i) (by omega) (by omega) (by rw [up1_ne _ _ (fun e => ij e.symm)]; exact j99)
                have l0 := e12_lt π
                have l1 := e12_lt (up1 π i j)
                rw [J_or (by omega) (nib_lt (by omega)), ← e1, J_or (by omega) (nib_lt (by omega)), e2]
              have pbi := pB_lt Y i
              have pbj := pB_lt Y j
              have u1 : u ||| pB Y i < 8 := Nat.or_lt_two_pow (n := 3) hu pbi
              have u2 : (u ||| pB Y i) ||| pB Y j < 8 := Nat.or_lt_two_pow (n := 3) u1 pbj
              have len' : (r.erase j).length = 2 * k := by
                rw [List.length_erase_of_mem jr]
                simp at len
                omega
              have subj : sub j = yLv Y k (r.erase j) (up1 (up1 π i j) j i) := by rw [sj, if_pos okj]
              have hdT : dHd (DL ++ nwL Y gi ((r.filter (fun x => decide (x < j))).flatMap sub)) gi Y := by
                intro d hd1 hd2
                rw [List.mem_append] at hd1
                rcases hd1 with hd1 | hd1
                · exact hd d hd1 hd2
                · unfold nwL at hd1
                  rw [List.mem_map] at hd1
                  obtain ⟨ρ, hρ, rfl⟩ := hd1
                  rw [List.mem_filter, List.mem_flatMap] at hρ
                  obtain ⟨⟨x, hx1, hx2⟩, hk⟩ := hρ
                  have CN := (kpr_iff.mp hk).1
                  have xr := (List.mem_filter.mp hx1).1
                  have mem : ρ ∈ yLv Y (k + 1) (i :: r) π := by
                    rw [lvE, List.mem_flatMap]
                    exact ⟨x, xr, hx2⟩
                  exact ⟨rfl, (Pr_row ok p hl len nd mem).1, CN.1⟩
              obtain ⟨U, w0, w1, w2, w3⟩ := ih (r.erase j) (up1 (up1 π i j) j i) ((u ||| pB Y i) ||| pB Y j) (sg * sgN Y i j (mkb (inl r) (yL Y))) e (dp + 1) T _ len' (pw_er hsr) (fun x hx => hlr x (List.mem_of_mem_erase hx)) (Pr_step ok p hl nd jr mj) u2 (fun x hx hn hN => by
                rw [Nat.testBit_or, Nat.testBit_or]
                by_cases c2 : x = i
                · have : (pB Y i).testBit (yP Y x) = true := by
                    unfold pB
                    rw [← c2, if_neg (by omega), Nat.testBit_two_pow_self]
                  rw [this, Bool.or_true, Bool.true_or]
                · by_cases c3 : x = j
                  · have : (pB Y j).testBit (yP Y x) = true := by
                      unfold pB
                      rw [← c3, if_neg (by omega), Nat.testBit_two_pow_self]
                    rw [this, Bool.or_true]
                  · have : ¬ x ∈ i :: r := by
                      rw [List.mem_cons]
                      intro q
                      rcases q with q | q
                      · exact c2 q
                      · exact hn ((ndr.mem_erase_iff).mpr ⟨c3, q⟩)
                    rw [hu2 x hx this hN, Bool.true_or, Bool.true_or]) (fun ρ hρ => by
                have mem : ρ ∈ yLv Y (k + 1) (i :: r) π := by
                  rw [lvE, List.mem_flatMap]
                  exact ⟨j, jr, by rw [subj]; exact hρ⟩
                have ρi : ρ i = j := by
                  have := ((lv_mem (y_ff ok) k (r.erase j) _ ρ len' (pw_nd (pw_er hsr))).mp hρ).2 i (fun q => nir (List.mem_of_mem_erase q))
                  rw [this, up1_ne _ _ ij, up1_self]
                rw [hsg ρ mem, sgL, ρi, Int.mul_assoc]) (by omega) (by omega) ivT gT hdT
              rw [v1 ml, if_neg (by decide), c_pointBit ivT.1 ok hi, Option.bind_some, c_pointBit ivT.1 ok hj, Option.bind_some, c_inRow (by omega) (by omega), Option.bind_some, c_inRow (by omega) (by omega), Option.bind_some, c_signOf ivT.1 ok hi hj mr, Option.bind_some, mkb_er1 L12 (by omega) ndr hlr, I_or (by omega) (by omega), I_or (by omega) (by omega), row, I_mul, I_suc, w0, Option.bind_some]
              simp only [bnd, I_suc]
              refine ihd (j + 1) nf U (by omega) (by omega) (by omega) w1 (fT.trans w2) ?_
              rw [fls, if_pos jr, List.flatMap_append, List.flatMap_singleton, nwL_app, ← List.append_assoc, subj]
              exact w3
            · rw [v2 ml, if_pos rfl]
              simp only [bnd, I_suc]
              refine ihd (j + 1) nf T (by omega) (by omega) (by omega) jT fT ?_
              rw [fls]
              by_cases jr : j ∈ r
              · rw [if_pos jr, List.flatMap_append, List.flatMap_singleton, nwL_app]
                have : nwL Y gi (sub j) = [] := by
                  apply nwL_nil
                  intro ρ hρ
                  rw [sj] at hρ
                  by_cases okj : okF (yK Y) (yFo Y) i j = true
                  · rw [if_pos okj] at hρ
                    have mem : ρ ∈ yLv Y (k + 1) (i :: r) π := by
                      rw [lvE, List.mem_flatMap]
                      exact ⟨j, jr, by rw [sj, if_pos okj]; exact hρ⟩
                    have len' : (r.erase j).length = 2 * k := by
                      rw [List.length_erase_of_mem jr]
                      simp at len
                      omega
                    have ρi : ρ i = j := by
                      have := ((lv_mem (y_ff ok) k (r.erase j) _ ρ len' (pw_nd (pw_er hsr))).mp hρ).2 i (fun q => nir (List.mem_of_mem_erase q))
                      rw [this, up1_ne _ _ (by omega), up1_self]
                    exact no_lead ok p hl srt len hu2 jr ml okj mem ρi
                  · rw [if_neg okj] at hρ
                    simp at hρ
                rw [this, List.append_nil]
                exact gT
              · rw [if_neg jr, List.append_nil]
                exact gT
        have start := lp (yL Y - (i + 1)) (i + 1) f S (by omega) (by omega) (by omega) iv.2.2.1 lfB.rfl (by
          have : r.filter (fun x => decide (x < i + 1)) = [] := List.filter_eq_nil_iff.mpr (fun x hx => by have := hir x hx; rw [decide_eq_true_eq]; omega)
          rw [this, List.flatMap_nil]
          have : nwL Y gi [] = [] := rfl
          rw [this, List.append_nil]
          exact ga)
        rw [lvE]
        exact start
end T9t
