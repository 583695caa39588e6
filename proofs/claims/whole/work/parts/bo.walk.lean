/-! WALK: the class goes through all pairings. -/
section BOa
def smT {α : Type} (F : α → Int) : List α → Int
  | [] => 0
  | x :: r => F x + smT F r
theorem smT_app {α : Type} (F : α → Int) : ∀ A E : List α, smT F (A ++ E) = smT F A + smT F E
  | [], E => by rw [List.nil_append, smT, Int.zero_add]
  | x :: r, E => by rw [List.cons_append, smT, smT, smT_app F r E]; omega
theorem smT_cg {α : Type} {F G : α → Int} : ∀ {l : List α}, (∀ x, x ∈ l → F x = G x) → smT F l = smT G l
  | [], _ => rfl
  | x :: r, h => by rw [smT, smT, h x List.mem_cons_self, smT_cg (fun y hy => h y (List.mem_cons_of_mem _ hy))]
theorem smT_mul {α : Type} {F : α → Int} (c : Int) : ∀ l : List α, smT (fun x => c * F x) l = c * smT F l
  | [] => by rw [smT, smT, Int.mul_zero]
  | x :: r => by rw [smT, smT, smT_mul c r, Int.mul_add]
theorem smT_fm {α β : Type} (F : β → Int) (g : α → List β) : ∀ l : List α, smT F (l.flatMap g) = smT (fun x => smT F (g x)) l
  | [] => rfl
  | x :: r => by rw [List.flatMap_cons, smT_app, smT, smT_fm F g r]
theorem smT_sum {α : Type} (F : α → Int) : ∀ l : List α, (l.map F).sum = smT F l
  | [] => rfl
  | x :: r => by rw [List.map_cons, List.sum_cons, smT, smT_sum F r]
variable {Y : Ly} {ρ : Nat → Nat}
noncomputable def wkS (Y : Ly) (k : Nat) (l : List Nat) (π : Nat → Nat) : Int := smT (fun ρ => sgL Y ρ k l) ((yLv Y k l π).filter (cnB Y))
/-- links of the legs that are joined -/
def lkA (Y : Ly) (l : List Nat) (π : Nat → Nat) : Nat := mkb (fun k => (List.range (yL Y)).any (fun x => decide (¬ x ∈ l) && lkN Y x (π x) == 2 ^ k)) 3
theorem lkA_lt (l : List Nat) (π : Nat → Nat) : lkA Y l π < 8 := mkb_lt _ 3
theorem lkA_tb (l : List Nat) (π : Nat → Nat) (k : Nat) : (lkA Y l π).testBit k = (decide (k < 3) && (List.range (yL Y)).any (fun x => decide (¬ x ∈ l) && lkN Y x (π x) == 2 ^ k)) := mkb_tb _ k 3
theorem lkA_nil (π : Nat → Nat) : lkA Y [] π = lkM Y π (yL Y) := by
  unfold lkA lkM
  apply mkb_eq
  intro k _
  have : (fun x => decide (¬ x ∈ ([] : List Nat)) && lkN Y x (π x) == 2 ^ k) = fun x => lkN Y x (π x) == 2 ^ k := by
    funext x
    rw [decide_eq_true (by simp), Bool.true_and]
  rw [this]
theorem lkA_s {i j : Nat} {r : List Nat} {π : Nat → Nat} (nd : (i :: r).Nodup) (hl : ∀ x, x ∈ i :: r → x < yL Y) (hj : j ∈ r) (hπ : ∀ x, x < yL Y → ¬ x ∈ i :: r → π x ≠ i ∧ π x ≠ j) : lkA Y (r.erase j) (up1 (up1 π i j) j i) = lkA Y (i :: r) π ||| lkN Y i j := by
  have ndr : r.Nodup := (List.nodup_cons.mp nd).2
  have nir : ¬ i ∈ r := (List.nodup_cons.mp nd).1
  have ij : i ≠ j := fun e => nir (e ▸ hj)
  have mem : ∀ x, x ∈ r.erase j ↔ x ∈ r ∧ x ≠ j := fun x => by rw [ndr.mem_erase_iff]; exact And.comm
  have vi : up1 (up1 π i j) j i i = j := by rw [up1_ne _ _ ij, up1_self]
  have vj : up1 (up1 π i j) j i j = i := up1_self _ _ _
  have vo : ∀ x, x ≠ i → x ≠ j → up1 (up1 π i j) j i x = π x := fun x a c => by rw [up1_ne _ _ c, up1_ne _ _ a]
  apply Nat.eq_of_testBit_eq
  intro k
  rw [Nat.testBit_or, lkA_tb, lkA_tb, lkN_tb]
  by_cases k3 : k < 3
  · rw [decide_eq_true k3, Bool.true_and, Bool.true_and, Bool.true_and, Bool.eq_iff_iff, Bool.or_eq_true, anyR, anyR, beq_iff_eq]
    constructor
    · rintro ⟨x, hx, h⟩
      rw [Bool.and_eq_true, decide_eq_true_iff, beq_iff_eq] at h
      by_cases xi : x = i
      · right
        rw [xi, vi] at h
        exact h.2
      · by_cases xj : x = j
        · right
          rw [xj, vj, lkN_sy] at h
          exact h.2
        · left
          refine ⟨x, hx, ?_⟩
          rw [Bool.and_eq_true, decide_eq_true_iff, beq_iff_eq]
          rw [vo x xi xj] at h
          refine ⟨fun q => ?_, h.2⟩
          rcases List.mem_cons.mp q with q | q
          · exact xi q
          · exact h.1 ((mem x).mpr ⟨q, xj⟩)
    · rintro (⟨x, hx, h⟩ | h)
      · rw [Bool.and_eq_true, decide_eq_true_iff, beq_iff_eq] at h
        refine ⟨x, hx, ?_⟩
        have xi : x ≠ i := fun e => h.1 (by rw [e]; simp)
        have xj : x ≠ j := fun e => h.1 (by rw [e]; exact List.mem_cons_of_mem _ hj)
        rw [Bool.and_eq_true, decide_eq_true_iff, beq_iff_eq, vo x xi xj]
        exact ⟨fun q => h.1 (List.mem_cons_of_mem _ ((mem x).mp q).1), h.2⟩
      · refine ⟨i, hl i (by simp), ?_⟩
        rw [Bool.and_eq_true, decide_eq_true_iff, beq_iff_eq, vi]
        exact ⟨fun q => nir ((mem i).mp q).1, h⟩
  · rw [decide_eq_false k3, Bool.false_and, Bool.false_and, Bool.false_and, Bool.false_or]
/-- what a join adds -/
noncomputable def wkT (Y : Ly) (k i : Nat) (r : List Nat) (π : Nat → Nat) (j : Nat) : Int := if okF (yK Y) (yFo Y) i j = true then sgN Y i j (mkb (inl r) (yL Y)) * wkS Y k (r.erase j) (up1 (up1 π i j) j i) else 0
theorem wkS_s (ok : yOk Y) {k i : Nat} {r : List Nat} {π : Nat → Nat} (len : (i :: r).length = 2 * (k + 1)) (nd : (i :: r).Nodup) : wkS Y (k + 1) (i :: r) π = smT (wkT Y k i r π) r := by
  have ndr : r.Nodup := (List.nodup_cons.mp nd).2
  have nir : ¬ i ∈ r := (List.nodup_cons.mp nd).1
  generalize hsub : (fun j => if okF (yK Y) (yFo Y) i j = true then yLv Y k (r.erase j) (up1 (up1 π i j) j i) else []) = sub
  have lvE : yLv Y (k + 1) (i :: r) π = r.flatMap sub := by rw [← hsub]; rfl
  unfold wkS
  rw [lvE, List.filter_flatMap, smT_fm]
  refine smT_cg (fun j hj => ?_)
  have sj : sub j = if okF (yK Y) (yFo Y) i j = true then yLv Y k (r.erase j) (up1 (up1 π i j) j i) else [] := by rw [← hsub]
  unfold wkT
  rw [sj]
  by_cases c : okF (yK Y) (yFo Y) i j = true
  · rw [if_pos c, if_pos c]
    unfold wkS
    rw [← smT_mul]
    refine smT_cg (fun ρ hρ => ?_)
    have ij : i ≠ j := fun e => nir (e ▸ hj)
    have m := (lv_mem (y_ff ok) k (r.erase j) (up1 (up1 π i j) j i) ρ (by rw [List.length_erase_of_mem hj]; simp at len; omega) (ndr.erase j)).mp (List.mem_filter.mp hρ).1
    have ri : ρ i = j := by
      rw [m.2 i (fun q => nir (List.mem_of_mem_erase q)), up1_ne _ _ ij, up1_self]
    rw [sgL, ri]
  · rw [if_neg c, if_neg c]
    rfl
end BOa
section BOb
variable {sh : List Sh} {f : Nat} {S : St} {Y : Ly}
theorem c_walk (hf : 1000 ≤ f) (ok : yOk Y) (h : lyC S 14 Y) : ∀ (k : Nat) (l : List Nat) (π : Nat → Nat) (e dp : Nat), l.length = 2 * k → l.Pairwise (· < ·) → (∀ x, x ∈ l → x < yL Y) → Pr Y l π → k < e → dp + k ≤ 6 → F_X5_walk sh f e S 13 (I (mkb (inl l) (yL Y))) (I (lkA Y l π)) (I dp) = some (I (wkS Y k l π)) := by
  have L12 := ok.2.2.2.2.2.2.1
  intro k
  induction k with
  | zero =>
    intro l π e dp len srt hl p he hdp
    obtain ⟨e, rfl⟩ : ∃ x, e = x + 1 := ⟨e - 1, by omega⟩
    have : l = [] := List.length_eq_zero_iff.mp (by omega)
    subst this
    have m0 : mkb (inl []) (yL Y) = 0 := by
      apply Nat.eq_of_testBit_eq
      intro x
      rw [mkb_inl _ _ _ hl, Nat.zero_testBit, decide_eq_false (by simp)]
    have w : yRw Y π := fun i hi => by
      obtain ⟨a1, a2, a3, a4, a5, _⟩ := p.1 i (List.mem_range.mp hi) (by simp)
      exact ⟨List.mem_range.mpr a1, a3, a4, a5⟩
    have ne : ∀ i, i < yN Y → yN Y ≤ π i := fun i hi => by
      have := (p.1 i (by have := N_le ok; omega) (by simp)).2.2.2.2.2
      omega
    have hh := c_hangs (sh := sh) (f := f) h ok (lkA_lt (Y := Y) [] π)
    have hh' : F_X4_hangs sh f S (13 + 1) (I (lkA Y [] π)) = _ := hh
    rw [F_X5_walk, m0, if_pos (show I ((0 : Nat) : Int) = 0 from rfl), hh', Option.bind_some, if10]
    unfold wkS
    have lv0 : yLv Y 0 [] π = [π] := rfl
    rw [lv0, lkA_nil]
    by_cases c : cnB Y π = true
    · have hg := (cnB_iff.mp c).2
      rw [if_pos ((hang_iff ok w).mpr hg), List.filter_cons, if_pos c, List.filter_nil, smT, smT, sgL]
      rfl
    · have hg : ¬ hgP Y π := fun q => c (cnB_iff.mpr ⟨ne, q⟩)
      rw [if_neg (fun q => hg ((hang_iff ok w).mp q)), List.filter_cons, if_neg c, List.filter_nil, smT]
      rfl
  | succ k ih =>
    intro l π e dp len srt hl p he hdp
    obtain ⟨e, rfl⟩ : ∃ x, e = x + 1 := ⟨e - 1, by omega⟩
    match l, len, srt, hl, p with
    | [], len, _, _, _ => simp at len
    | i :: r, len, srt, hl, p =>
      obtain ⟨t1, t2, t3⟩ := mkb_tail L12 hl srt
      have nd := pw_nd srt
      have ndr : r.Nodup := (List.nodup_cons.mp nd).2
      have nir : ¬ i ∈ r := (List.nodup_cons.mp nd).1
      have hsr := (List.pairwise_cons.mp srt).2
      have hir := (List.pairwise_cons.mp srt).1
      have hi := hl i (by simp)
      have hlr : ∀ x, x ∈ r → x < yL Y := fun x hx => hl x (List.mem_cons_of_mem _ hx)
      have q12 : 2 ^ yL Y ≤ 2 ^ 12 := Nat.pow_le_pow_right (by omega) L12
      have ml := mkb_lt (inl (i :: r)) (yL Y)
      have mr := mkb_lt (inl r) (yL Y)
      have z0 : ¬ I (mkb (inl (i :: r)) (yL Y) : Int) = 0 := by
        rw [show (0 : Int32) = I ((0 : Nat) : Int) from rfl, I_eqN (by omega) (by omega)]; exact t3
      have d6 : I (dp : Int) < (6 : Int32) := by
        rw [show (6 : Int32) = I ((6 : Nat) : Int) from rfl, I_ltN (by omega) (by omega)]; omega
      have m1 : I (mkb (inl (i :: r)) (yL Y) : Int) - 1 = I ((mkb (inl (i :: r)) (yL Y) - 1 : Nat) : Int) := by
        rw [show (1 : Int32) = I 1 from rfl, I_sub]; congr 1; omega
      have lp : ∀ (d j nf : Nat), j + d = yL Y → d < nf → i < j → F_X5_walk_L51 sh f S 13 (I (mkb (inl (i :: r)) (yL Y))) (I (lkA Y (i :: r) π)) (I dp) (F_X5_walk sh f e S) nf (I i) (I (mkb (inl r) (yL Y))) (I (smT (wkT Y k i r π) (r.filter (fun x => decide (x < j))))) (I j) = some (I (smT (wkT Y k i r π) r)) := by
        intro d
        induction d with
        | zero =>
          intro j nf h1 h2 h3
          obtain ⟨nf, rfl⟩ : ∃ x, nf = x + 1 := ⟨nf - 1, by omega⟩
          have jE : j = yL Y := by omega
          subst jE
          have fe : r.filter (fun x => decide (x < yL Y)) = r := List.filter_eq_self.mpr (fun x hx => decide_eq_true (hlr x hx))
          rw [F_X5_walk_L51, fe]
          simp only [Nat.reduceAdd, h.2.2.1]
          rw [if_pos (by rw [I_leN (by omega) (by omega)]; omega)]
        | succ d ihd =>
          intro j nf h1 h2 h3
          obtain ⟨nf, rfl⟩ : ∃ x, nf = x + 1 := ⟨nf - 1, by omega⟩
          have hj : j < yL Y := by omega
          have c1 : ¬ I (yL Y : Int) ≤ I j := by rw [I_leN (by omega) (by omega)]; omega
          have mj := c_mayJoin (sh := sh) (f := f) h ok hi hj (m := mkb (inl r) (yL Y)) (by omega)
          have fls := fl_s hsr j
          have nx := ihd (j + 1) nf (by omega) (by omega) (by omega)
          rw [fls, smT_app] at nx
          rw [F_X5_walk_L51]
          simp only [Nat.reduceAdd, h.2.2.1, if_neg c1]
          rw [mj, Option.bind_some, if10]
          by_cases q : (mkb (inl r) (yL Y)).testBit j = true ∧ yMj Y i j = true
          · have jr : j ∈ r := by
              have := q.1
              rw [mkb_inl _ _ _ hlr, decide_eq_true_eq] at this
              exact this
            have mj' := q.2
            unfold yMj at mj'
            rw [decide_eq_true_eq] at mj'
            have okj : okF (yK Y) (yFo Y) i j = true := by
              unfold okF
              rw [beq_iff_eq]
              exact mj'.2.1
            have sg := c_signOf (sh := sh) (f := f) h ok hi hj mr
            have lk := c_link (sh := sh) (f := f) h ok hi hj
            have la := lkA_lt (Y := Y) (i :: r) π
            have ll := lkN_lt Y i j
            have len' : (r.erase j).length = 2 * k := by
              rw [List.length_erase_of_mem jr]
              simp at len
              omega
            have rcw := ih (r.erase j) (up1 (up1 π i j) j i) e (dp + 1) len' (hsr.sublist List.erase_sublist) (fun x hx => hlr x (List.mem_of_mem_erase hx)) (Pr_step ok p hl nd jr q.2) (by omega) (by omega)
            have ls := lkA_s (Y := Y) nd hl jr (π := π) (fun x hx hn => ⟨fun e => (p.1 x hx hn).2.1 (by rw [e]; simp), fun e => (p.1 x hx hn).2.1 (by rw [e]; exact List.mem_cons_of_mem _ jr)⟩)
            rw [ls] at rcw
            rw [if_pos q, sg, Option.bind_some, lk, Option.bind_some, mkb_er1 L12 (by omega) ndr hlr, I_or (by omega) (by omega), I_suc, rcw, Option.bind_some, I_mul, I_add]
            simp only [bnd, I_suc]
            rw [if_pos jr, smT, smT, Int.add_zero] at nx
            have wt : wkT Y k i r π j = sgN Y i j (mkb (inl r) (yL Y)) * wkS Y k (r.erase j) (up1 (up1 π i j) j i) := by unfold wkT; rw [if_pos okj]
            rw [wt] at nx
            exact nx
          · rw [if_neg q]
            simp only [bnd, I_suc]
            have z : smT (wkT Y k i r π) (if j ∈ r then [j] else []) = 0 := by
              by_cases jr : j ∈ r
              · rw [if_pos jr, smT, smT, Int.add_zero]
                unfold wkT
                by_cases okj : okF (yK Y) (yFo Y) i j = true
                · have em : (yLv Y k (r.erase j) (up1 (up1 π i j) j i)).filter (cnB Y) = [] := by
                    rw [List.filter_eq_nil_iff]
                    intro ρ hρ hc
                    have ij : i ≠ j := fun e => nir (e ▸ jr)
                    have m := (lv_mem (y_ff ok) k (r.erase j) (up1 (up1 π i j) j i) ρ (by rw [List.length_erase_of_mem jr]; simp at len; omega) (ndr.erase j)).mp hρ
                    have ri : ρ i = j := by rw [m.2 i (fun q => nir (List.mem_of_mem_erase q)), up1_ne _ _ ij, up1_self]
                    have cc := (cnB_iff.mp hc).1
                    apply q
                    refine ⟨by rw [mkb_inl _ _ _ hlr]; exact decide_eq_true jr, ?_⟩
                    unfold yMj
                    unfold okF at okj
                    rw [beq_iff_eq] at okj
                    refine decide_eq_true ⟨by omega, okj, ?_⟩
                    by_cases qi : i < yN Y
                    · have := cc i qi
                      omega
                    · omega
                  rw [if_pos okj]
                  unfold wkS
                  rw [em, smT, Int.mul_zero]
                · rw [if_neg okj]
              · rw [if_neg jr, smT]
            rw [z, Int.add_zero] at nx
            exact nx
      have fe : r.filter (fun x => decide (x < i + 1)) = [] := List.filter_eq_nil_iff.mpr (fun x hx => by have := hir x hx; rw [decide_eq_true_eq]; omega)
      have st := lp (yL Y - (i + 1)) (i + 1) f (by omega) (by omega) (by omega)
      rw [fe, smT] at st
      rw [F_X5_walk, if_neg z0, if_pos d6, c_tz (by omega) t3, Option.bind_some, t2, m1]
      simp only [bnd]
      rw [I_and (by omega) (by omega), t1, I_suc, wkS_s ok len nd]
      exact st
theorem wk_all (ok : yOk Y) : wkS Y (yL Y / 2) (List.range (yL Y)) (fun _ => 99) = wkN Y := by
  unfold wkS wkN
  rw [smT_sum]
  rfl
end BOb
