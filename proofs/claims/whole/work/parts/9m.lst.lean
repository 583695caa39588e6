/-! LEAST TALLIED: the least row with the joins counted. -/
section M9m
variable {sh : List Sh} {f : Nat} {S : St} {Y : Ly}
theorem nib_lt {i j : Nat} (hj : j < 16) : j * 16 ^ (11 - i) < 9223372036854775808 := by
  have b : 16 ^ (11 - i) ≤ 16 ^ 11 := Nat.pow_le_pow_right (by omega) (by omega)
  have b2 : j * 16 ^ (11 - i) ≤ 15 * 16 ^ 11 := Nat.mul_le_mul (by omega) b
  omega
theorem pw_len {L : Nat} : ∀ {l : List Nat} {lo : Nat}, l.Pairwise (· < ·) → (∀ x, x ∈ l → lo ≤ x ∧ x < L) → l.length ≤ L - lo
  | [], _, _, _ => by simp
  | y :: r, lo, hs, h => by
    have a := (List.pairwise_cons.mp hs).1
    have b := pw_len (l := r) (lo := y + 1) (List.pairwise_cons.mp hs).2 (fun x hx => ⟨by have := a x hx; omega, (h x (List.mem_cons_of_mem _ hx)).2⟩)
    have c := h y (by simp)
    rw [List.length_cons]
    omega
def inl (l : List Nat) : Nat → Bool := fun x => decide (x ∈ l)
theorem c_firstT (hf : 1000 ≤ f) (h : lyC S 14 Y) (ok : yOk Y) {tt : Nat → Nat → Nat} (jn : jnC S tt) (tb : ∀ a b, tt a b < 1000) {l : List Nat} {i j : Nat} (hi : i < yL Y) (hij : i < j) (hj : j < yL Y) (jl : j ∈ l) (pj : 0 < tt (yF Y i) (yF Y j)) (no : ∀ x, i < x → x < j → x ∈ l → tt (yF Y i) (yF Y x) = 0) : F_X5_firstTallied sh f S 13 (I i) (I (mkb (inl l) (yL Y))) = some (I j) := by
  have L12 := ok.2.2.2.2.2.2.1
  have q : 2 ^ yL Y ≤ 2 ^ 12 := Nat.pow_le_pow_right (by omega) L12
  have ml := mkb_lt (inl l) (yL Y)
  have icl : (I (i : Int)).toNatClampNeg = i := I_clN (by omega)
  have fi12 := (F_lt ok hi).2
  have lp : ∀ (d x nf : Nat), x + d = j → d < nf → i < x → F_X5_firstTallied_L4 sh f S 13 (I i) (I (mkb (inl l) (yL Y))) nf (I x) = some (I j) := by
    intro d
    induction d with
    | zero =>
      intro x nf h1 h2 h3
      obtain ⟨nf, rfl⟩ : ∃ e, nf = e + 1 := ⟨nf - 1, by omega⟩
      have : x = j := by omega
      subst this
      have xcl : (I (x : Int)).toNatClampNeg = x := I_clN (by omega)
      have fx12 := (F_lt ok hj).2
      have abc : (I ((12 * yF Y i + yF Y x : Nat) : Int)).toNatClampNeg = 12 * yF Y i + yF Y x := I_clN (by omega)
      have c1 : ¬ I (yL Y : Int) ≤ I x := by rw [I_leN (by omega) (by omega)]; omega
      have tbx := tb (yF Y i) (yF Y x)
      have c2 : ¬ I (tt (yF Y i) (yF Y x) : Int) ≤ 0 := by
        rw [show (0 : Int32) = I ((0 : Nat) : Int) from rfl, I_leN (by omega) (by omega)]; omega
      have bt : ¬ (mkb (inl l) (yL Y)).testBit x = false := by
        rw [mkb_tb, decide_eq_true hj]
        unfold inl
        rw [decide_eq_true jl]
        decide
      rw [F_X5_firstTallied_L4]
      simp only [Nat.reduceAdd, h.2.2.1, if_neg c1, I_bit (show mkb (inl l) (yL Y) < 4096 by omega) (show x < 12 by omega), if_neg bt, icl, xcl, if_neg (I_bnd (show i < 12 by omega) (by omega)), if_neg (I_bnd (show x < 12 by omega) (by omega)), (h.2.2.2.2.2.2.1 i hi).2.2.1, (h.2.2.2.2.2.2.1 x hj).2.2.1, I_idx, abc, if_neg (I_bnd (show 12 * yF Y i + yF Y x < 144 by omega) (by omega)), jn _ _ (show yF Y i < 12 by omega) (show yF Y x < 12 by omega), if_neg c2]
    | succ d ih =>
      intro x nf h1 h2 h3
      obtain ⟨nf, rfl⟩ : ∃ e, nf = e + 1 := ⟨nf - 1, by omega⟩
      have hx : x < yL Y := by omega
      have xcl : (I (x : Int)).toNatClampNeg = x := I_clN (by omega)
      have fx12 := (F_lt ok hx).2
      have abc : (I ((12 * yF Y i + yF Y x : Nat) : Int)).toNatClampNeg = 12 * yF Y i + yF Y x := I_clN (by omega)
      have c1 : ¬ I (yL Y : Int) ≤ I x := by rw [I_leN (by omega) (by omega)]; omega
      have go := ih (x + 1) nf (by omega) (by omega) (by omega)
      rw [F_X5_firstTallied_L4]
      simp only [Nat.reduceAdd, h.2.2.1, if_neg c1, I_bit (show mkb (inl l) (yL Y) < 4096 by omega) (show x < 12 by omega), icl, xcl, if_neg (I_bnd (show i < 12 by omega) (by omega)), if_neg (I_bnd (show x < 12 by omega) (by omega)), (h.2.2.2.2.2.2.1 i hi).2.2.1, (h.2.2.2.2.2.2.1 x hx).2.2.1, I_idx, abc, if_neg (I_bnd (show 12 * yF Y i + yF Y x < 144 by omega) (by omega)), jn _ _ (show yF Y i < 12 by omega) (show yF Y x < 12 by omega), bnd, I_suc]
      by_cases g : x ∈ l
      · have bt : ¬ (mkb (inl l) (yL Y)).testBit x = false := by
          rw [mkb_tb, decide_eq_true hx]
          unfold inl
          rw [decide_eq_true g]
          decide
        have z := no x h3 (by omega) g
        rw [if_neg bt, z, if_pos (show I ((0 : Nat) : Int) ≤ 0 by decide)]
        exact go
      · have bt : (mkb (inl l) (yL Y)).testBit x = false := by
          rw [mkb_tb]
          unfold inl
          rw [decide_eq_false g, Bool.and_false]
        rw [if_pos bt]
        exact go
  unfold F_X5_firstTallied
  simp only [bnd, I_suc]
  exact lp (j - (i + 1)) (i + 1) f (by omega) (by omega) (by omega)
theorem mkb_er {l l' : List Nat} {L i j : Nat} (hL : L ≤ 12) (hi : i < 12) (hj : j < 12) (h : ∀ x, x ∈ l' ↔ x ∈ l ∧ x ≠ i ∧ x ≠ j) : I (mkb (inl l) L : Int) &&& ((((1 : Int32) <<< (I (i : Int) &&& 31)) ||| ((1 : Int32) <<< (I (j : Int) &&& 31))) ^^^ (-1)) = I (mkb (inl l') L : Int) := by
  have q : 2 ^ L ≤ 2 ^ 12 := Nat.pow_le_pow_right (by omega) hL
  have ml := mkb_lt (inl l) L
  have pi : 2 ^ i ≤ 2 ^ 11 := Nat.pow_le_pow_right (by omega) (by omega)
  have pj : 2 ^ j ≤ 2 ^ 11 := Nat.pow_le_pow_right (by omega) (by omega)
  have po : 2 ^ i ||| 2 ^ j < 4096 := Nat.or_lt_two_pow (n := 12) (by omega) (by omega)
  rw [one_shl (by omega), one_shl (by omega), I_or (by omega) (by omega), I_andn (by omega) (by omega)]
  have e : mkb (inl l) L &&& ((2 ^ i ||| 2 ^ j) ^^^ 4294967295) = mkb (inl l') L := by
    apply Nat.eq_of_testBit_eq
    intro x
    rw [andn_tb (by omega), mkb_tb, mkb_tb, Nat.testBit_or, Nat.testBit_two_pow, Nat.testBit_two_pow]
    unfold inl
    have hx := h x
    by_cases c1 : x ∈ l' <;> by_cases c2 : x ∈ l <;> by_cases c3 : i = x <;> by_cases c4 : j = x <;> by_cases c5 : x < L <;> (first | (simp_all; done) | grind)
  rw [e]
theorem c_least (hf : 1000 ≤ f) (h : lyC S 14 Y) (ok : yOk Y) {τ : Nat → Nat} (w : yRw Y τ) (jn : jnC S (jt (yF Y) (List.range (yL Y)) τ)) : ∃ S', F_X5_leastTallied sh f S 13 = some (J (e12 (gr (yF Y) (yL Y / 2) (List.range (yL Y)) (jt (yF Y) (List.range (yL Y)) τ) (fun _ => 99))), S') ∧ jnC S' (fun _ _ => 0) ∧ ∀ x, x ≠ 22 → Sm S S' x := by
  have L12 := ok.2.2.2.2.2.2.1
  have ev := ok.2.2.2.2.2.2.2
  have q : 2 ^ yL Y ≤ 2 ^ 12 := Nat.pow_le_pow_right (by omega) L12
  have lp : ∀ (d i nf : Nat) (T : St) (l : List Nat) (k : Nat) (tt : Nat → Nat → Nat) (π ρ : Nat → Nat), i + d = yL Y → d < nf → (∀ x, x ≠ 22 → Sm S T x) → l.length = 2 * k → l.Pairwise (· < ·) → (∀ x, x ∈ l → i ≤ x ∧ x < yL Y) → Rw (yK Y) (yFo Y) l ρ → (∀ a b, tt a b = jt (yF Y) l ρ a b) → jnC T tt → (∀ x, x ∈ l → π x = 99) → ∃ S', F_X5_leastTallied_L13 sh f 13 nf T (I (mkb (inl l) (yL Y))) (J (e12 π)) (I i) = some (J (e12 (gr (yF Y) k l tt π)), S') ∧ jnC S' (fun _ _ => 0) ∧ ∀ x, x ≠ 22 → Sm S S' x := by
    intro d
    induction d with
    | zero =>
      intro i nf T l k tt π ρ h1 h2 fr len srt rg wl ht jT h99
      obtain ⟨nf, rfl⟩ : ∃ e, nf = e + 1 := ⟨nf - 1, by omega⟩
      have : i = yL Y := by omega
      subst this
      have lT := lyC_sm h (S' := T) (fun x _ _ => fr x (by omega))
      have le : l = [] := by
        cases l with
        | nil => rfl
        | cons y r => exact absurd (rg y (by simp)) (by omega)
      subst le
      have k0 : k = 0 := by simp at len; omega
      subst k0
      refine ⟨T, ?_, ?_, fr⟩
      · rw [F_X5_leastTallied_L13]
        simp only [Nat.reduceAdd, lT.2.2.1]
        rw [if_pos (by rw [I_leN (by omega) (by omega)]; omega), gr]
      · intro a b ha hb
        rw [jT a b ha hb, ht]
        rfl
    | succ d ih =>
      intro i nf T l k tt π ρ h1 h2 fr len srt rg wl ht jT h99
      obtain ⟨nf, rfl⟩ : ∃ e, nf = e + 1 := ⟨nf - 1, by omega⟩
      have hi : i < yL Y := by omega
      have lT := lyC_sm h (S' := T) (fun x _ _ => fr x (by omega))
      have c1 : ¬ I (yL Y : Int) ≤ I i := by rw [I_leN (by omega) (by omega)]; omega
      have ml := mkb_lt (inl l) (yL Y)
      rw [F_X5_leastTallied_L13]
      simp only [Nat.reduceAdd, lT.2.2.1, if_neg c1, I_bit (show mkb (inl l) (yL Y) < 4096 by omega) (show i < 12 by omega)]
      by_cases g : i ∈ l
      · have bt : ¬ (mkb (inl l) (yL Y)).testBit i = false := by
          rw [mkb_tb, decide_eq_true hi]
          unfold inl
          rw [decide_eq_true g]
          decide
        match l, len, srt, rg, wl, ht, h99, g, bt with
        | y :: r, len, srt, rg, wl, ht, h99, g, bt =>
          have yi : y = i := by
            rw [List.mem_cons] at g
            rcases g with g | g
            · exact g.symm
            · have := (List.pairwise_cons.mp srt).1 i g
              have := (rg y (by simp)).1
              omega
          subst yi
          have nd := pw_nd srt
          have ndr : r.Nodup := (List.nodup_cons.mp nd).2
          have nir : ¬ y ∈ r := (List.nodup_cons.mp nd).1
          have hsr := (List.pairwise_cons.mp srt).2
          have hir := (List.pairwise_cons.mp srt).1
          have hr0 := (Rw_tail nd wl).1
          have p0 : 0 < tt (yF Y y) (yF Y (ρ y)) := by
            rw [ht]
            exact (jt_pos wl).mpr ⟨y, by simp, Eq.refl _, Eq.refl _⟩
          obtain ⟨k, rfl⟩ : ∃ e, k = e + 1 := ⟨k - 1, by simp at len; omega⟩
          cases hfd : r.find? (fun j => decide (0 < tt (yF Y y) (yF Y j))) with
          | none =>
            rw [List.find?_eq_none] at hfd
            exact absurd (decide_eq_true p0) (hfd _ hr0)
          | some j =>
            obtain ⟨hj, pj, lj⟩ := find_sorted hsr hfd
            have pj := of_decide_eq_true pj
            have eg : gr (yF Y) (k + 1) (y :: r) tt π = gr (yF Y) k (r.erase j) (dc tt (yF Y y) (yF Y j)) (up1 (up1 π y j) j y) := by rw [gr, hfd]
            have pj' := pj
            rw [ht] at pj'
            obtain ⟨x, x1, x2, x3⟩ := (jt_pos wl).mp pj'
            have hij : y ≠ j := fun e => nir (e ▸ hj)
            have hlt := hir j hj
            have jL := (rg j (List.mem_cons_of_mem _ hj)).2
            obtain ⟨ρ1, r1, v1⟩ := exch (y_hk ok) wl (by simp) (List.mem_cons_of_mem _ hj) hij x1 x2 x3
            have w1 := r1.rw (y_hk ok) wl
            have wt1 := (Rw_tail nd w1).2
            rw [v1] at wt1
            have tt1 := Rch_tl nd r1
            have hd : ∀ a b, dc tt (yF Y y) (yF Y j) a b = jt (yF Y) (r.erase j) ρ1 a b := by
              intro a b
              have e1 := jt_tail (fi := yF Y) nd w1 a b
              rw [v1, jt_of_tl nd w1 wl tt1 a b] at e1
              unfold dc
              rw [ht a b, e1]
              by_cases c : yF Y y = a ∧ yF Y j = b ∨ yF Y y = b ∧ yF Y j = a
              · rw [if_pos c, if_pos c]; omega
              · rw [if_neg c, if_neg c]; omega
            have len' : (r.erase j).length = 2 * k := by
              rw [List.length_erase_of_mem hj]
              simp at len
              omega
            have tb : ∀ a b, tt a b < 1000 := by
              intro a b
              rw [ht]
              have : jt (yF Y) (y :: r) ρ a b ≤ (y :: r).length := List.countP_le_length
              have := pw_len srt rg
              omega
            have ft := c_firstT (sh := sh) hf lT ok jT tb (l := y :: r) hi hlt jL (List.mem_cons_of_mem _ hj) pj (fun x hx1 hx2 hx3 => by
              rw [List.mem_cons] at hx3
              rcases hx3 with hx3 | hx3
              · omega
              · apply Classical.byContradiction
                intro c
                have := lj x hx3 (decide_eq_true (by omega))
                omega)
            have fa := (F_lt ok hi).2
            have fb := (F_lt ok jL).2
            have sy : tt (yF Y j) (yF Y y) = tt (yF Y y) (yF Y j) := by rw [ht, ht, jt_sy]
            have icl : (I (y : Int)).toNatClampNeg = y := I_clN (by omega)
            have jcl : (I (j : Int)).toNatClampNeg = j := I_clN (by omega)
            have jm1 : ¬ I (j : Int) = -1 := by
              rw [show (-1 : Int32) = I (-1) from rfl, I_eq (by omega) (by omega)]; omega
            rw [if_neg bt, ft, Option.bind_some, eg]
            have mem : ∀ x, x ∈ r.erase j ↔ x ∈ y :: r ∧ x ≠ y ∧ x ≠ j := by
              intro x
              rw [ndr.mem_erase_iff, List.mem_cons]
              constructor
              · rintro ⟨a, b⟩
                exact ⟨Or.inr b, fun e => nir (e ▸ b), a⟩
              · rintro ⟨a, b, c⟩
                exact ⟨c, a.resolve_left b⟩
            have mk := mkb_er (l := y :: r) (l' := r.erase j) L12 (show y < 12 by omega) (show j < 12 by omega) mem
            have e99 : π y = 99 := h99 y (by simp)
            have j99 : π j = 99 := h99 j (List.mem_cons_of_mem _ hj)
            have row : J (e12 π : Int) ||| (J ((j * 16 ^ (11 - y) : Nat) : Int) ||| J ((y * 16 ^ (11 - j) : Nat) : Int)) = J (e12 (up1 (up1 π y j) j y) : Int) := by
              have e1 := e12_up (π := π) (i := y) (j := j) (by omega) (by omega) e99
              have e2 := e12_up (π := up1 π y j) (i := j) (j := y) (by omega) (by omega) (by rw [up1_ne _ _ (fun e => hij e.symm)]; exact j99)
              have l0 := e12_lt π
              rw [J_or (nib_lt (by omega)) (nib_lt (by omega)), J_or (by omega) (Nat.or_lt_two_pow (n := 63) (nib_lt (by omega)) (nib_lt (by omega))), e2, e1, Nat.or_assoc]
            have L118 : ∀ (U : St), (∀ x, x ≠ 22 → Sm S U x) → jnC U (dc tt (yF Y y) (yF Y j)) → ∃ S', F_X5_leastTallied_L118 sh f 13 (F_X5_leastTallied_L13 sh f 13 nf) U (I (mkb (inl (y :: r)) (yL Y))) (J (e12 π)) (I y) (I j) = some (J (e12 (gr (yF Y) k (r.erase j) (dc tt (yF Y y) (yF Y j)) (up1 (up1 π y j) j y))), S') ∧ jnC S' (fun _ _ => 0) ∧ ∀ x, x ≠ 22 → Sm S S' x := by
              intro U uf uj
              unfold F_X5_leastTallied_L118
              rw [mk, c_inRow (by omega) (by omega), c_inRow (by omega) (by omega)]
              simp only [bnd, Option.bind_some, row, I_suc]
              refine ih (y + 1) nf U (r.erase j) k _ _ ρ1 (by omega) (by omega) uf len' (pw_er hsr) (fun x hx => ?_) wt1 hd uj (fun x hx => ?_)
              · have m := (mem x).mp hx
                have := rg x m.1
                exact ⟨by omega, this.2⟩
              · have m := (mem x).mp hx
                rw [up1_ne _ _ m.2.2, up1_ne _ _ m.2.1]
                exact h99 x m.1
            unfold F_X5_leastTallied_L45
            have abc : (I ((12 * yF Y y + yF Y j : Nat) : Int)).toNatClampNeg = 12 * yF Y y + yF Y j := I_clN (by omega)
            have bac : (I ((12 * yF Y j + yF Y y : Nat) : Int)).toNatClampNeg = 12 * yF Y j + yF Y y := I_clN (by omega)
            have q2 : (I (yF Y y : Int) = I (yF Y j)) = (yF Y y = yF Y j) := I_eqN (by omega) (by omega)
            have m1 : ∀ z : Nat, 0 < z → I (z : Int) - 1 = I ((z - 1 : Nat) : Int) := by
              intro z hz
              rw [show (1 : Int32) = I 1 from rfl, I_sub]; congr 1; omega
            simp only [Nat.reduceAdd, if_neg jm1, icl, jcl, if_neg (I_bnd (show y < 12 by omega) (by omega)), if_neg (I_bnd (show j < 12 by omega) (by omega)), (lT.2.2.2.2.2.2.1 y hi).2.2.1, (lT.2.2.2.2.2.2.1 j jL).2.2.1, bnd, I_idx, abc, bac, if_neg (I_bnd (show 12 * yF Y y + yF Y j < 144 by omega) (by omega)), if_neg (I_bnd (show 12 * yF Y j + yF Y y < 144 by omega) (by omega)), jT _ _ (show yF Y y < 12 by omega) (show yF Y j < 12 by omega), q2, m1 _ pj]
            generalize hU : uA T 22 (12 * yF Y y + yF Y j) (I ((tt (yF Y y) (yF Y j) - 1 : Nat) : Int)) = U
            have u22 : ∀ x, sA U 22 x = up1 (sA T 22) (12 * yF Y y + yF Y j) (I ((tt (yF Y y) (yF Y j) - 1 : Nat) : Int)) x := by
              intro x
              rw [← hU, sA_uA, if_pos rfl]
            have uf : ∀ x, x ≠ 22 → Sm S U x := by
              intro x hx
              rw [← hU]
              exact (fr x hx).trans (by repeat' (first | exact Sm.rfl | (refine Sm.uI ?_ (by omega)) | (refine Sm.uA ?_ (by omega)) | (refine Sm.uJ ?_ (by omega)) | (refine Sm.uL ?_ (by omega)) | (refine Sm.uR ?_ (by omega))))
            by_cases e : yF Y y = yF Y j
            · rw [if_pos e]
              apply L118 U uf
              intro a b ha hb
              rw [u22, up1_if]
              unfold dc
              by_cases g : 12 * a + b = 12 * yF Y y + yF Y j
              · rw [if_pos g, if_pos (by omega), show a = yF Y y by omega, show b = yF Y j by omega]
              · rw [if_neg g, if_neg (by omega)]
                exact jT a b ha hb
            · rw [if_neg e, u22, up1_ne _ _ (by omega), jT _ _ (show yF Y j < 12 by omega) (show yF Y y < 12 by omega), m1 _ (by omega)]
              apply L118
              · intro x hx
                exact (uf x hx).trans (by repeat' (first | exact Sm.rfl | (refine Sm.uI ?_ (by omega)) | (refine Sm.uA ?_ (by omega)) | (refine Sm.uJ ?_ (by omega)) | (refine Sm.uL ?_ (by omega)) | (refine Sm.uR ?_ (by omega))))
              · intro a b ha hb
                rw [sA_uA, if_pos rfl, up1_if]
                unfold dc
                by_cases g : 12 * a + b = 12 * yF Y j + yF Y y
                · rw [if_pos g, if_pos (by omega), show a = yF Y j by omega, show b = yF Y y by omega]
                · rw [if_neg g, u22, up1_if]
                  by_cases g2 : 12 * a + b = 12 * yF Y y + yF Y j
                  · rw [if_pos g2, if_pos (by omega), show a = yF Y y by omega, show b = yF Y j by omega]
                  · rw [if_neg g2, if_neg (by omega)]
                    exact jT a b ha hb
      · have bt : (mkb (inl l) (yL Y)).testBit i = false := by
          rw [mkb_tb]
          unfold inl
          rw [decide_eq_false g, Bool.and_false]
        rw [if_pos bt]
        unfold F_X5_leastTallied_L45
        rw [if_pos rfl]
        simp only [bnd, I_suc]
        exact ih (i + 1) nf T l k tt π ρ (by omega) (by omega) fr len srt (fun x hx => by
          have := rg x hx
          have : x ≠ i := fun e => g (e ▸ hx)
          omega) wl ht jT h99
  have al : F_X4_allLegs sh f S 14 = some (I (mkb (inl (List.range (yL Y))) (yL Y) : Int)) := by
    unfold F_X4_allLegs
    rw [h.2.2.1, one_shl (by omega)]
    have e : mkb (inl (List.range (yL Y))) (yL Y) = 2 ^ yL Y - 1 := by
      apply Nat.eq_of_testBit_eq
      intro x
      rw [mkb_tb, Nat.testBit_two_pow_sub_one]
      unfold inl
      by_cases c : x < yL Y
      · rw [decide_eq_true (List.mem_range.mpr c), Bool.and_true]
      · rw [decide_eq_false c, Bool.false_and]
    rw [e, show (1 : Int32) = I 1 from rfl, I_sub]
    congr 2
    have := Nat.two_pow_pos (yL Y)
    omega
  have z : (0 : Int64) = J (e12 (fun _ => 99) : Int) := by decide
  unfold F_X5_leastTallied
  rw [al, Option.bind_some, z]
  exact lp (yL Y) 0 f S (List.range (yL Y)) (yL Y / 2) _ _ τ (by omega) (by omega) (fun x _ => Sm.rfl) (by rw [List.length_range]; omega) (pw_range _) (fun x hx => ⟨by omega, List.mem_range.mp hx⟩) w (fun a b => rfl) jn (fun x _ => rfl)
end M9m
