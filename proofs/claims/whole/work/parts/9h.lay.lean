/-! THE LAYOUT as the developers' object lays it. -/
def cdU (V c p : Nat) : Nat := c / 4 ^ (V - 1 - p) % 4
def yC (B : Bk) (n : Nat) (ek : Nat → Nat) (V c : Nat) : Ly := (B, n, ek, V, cdU V c)
def pI (Y : Ly) (i : Nat) : Int32 := if i < yN Y then -1 else I (yP Y i)
def yNa (Y : Ly) : Nat := (yPP Y).length * Hn (yF Y) (List.range (yL Y))
def lyC (S : St) (t : Nat) (Y : Ly) : Prop := sI S t 7 = I (yV Y) ∧ sI S t 8 = I (yN Y) ∧ sI S t 9 = I (yL Y) ∧ sI S t 10 = I (mkb (yHa Y) (yL Y)) ∧ sI S t 11 = I (mkb (ySe Y) (yL Y)) ∧ sI S t 12 = I (yNa Y) ∧ (∀ i, i < yL Y → sA S (t + 1) i = I (yK Y i) ∧ sA S (t + 2) i = pI Y i ∧ sA S (t + 3) i = I (yF Y i) ∧ sA S (t + 4) i = I (mkb (yAl Y i) (yL Y)) ∧ sA S (t + 5) i = I (mkb (yMj Y i) (yL Y))) ∧ ∀ p, p < yV Y → sA S (t + 6) p = I (yU Y p) ∧ sA S (t + 7) p = I (yS Y p)
/-- the first m legs laid -/
def LA (S T : St) (t : Nat) (Y : Ly) (m : Nat) : Prop := (∀ i, i < m → sA T (t + 1) i = I (yK Y i) ∧ sA T (t + 2) i = pI Y i ∧ sA T (t + 3) i = I (yF Y i)) ∧ sI T t 7 = I (yV Y) ∧ sI T t 8 = I (yN Y) ∧ sI T t 9 = I (m : Nat) ∧ ∀ c, c < t ∨ t + 7 < c → Sm S T c
theorem yS_mono {Y : Ly} {p q : Nat} (h : p ≤ q) : yS Y p ≤ yS Y q := by
  induction q with
  | zero =>
    have : p = 0 := by omega
    subst this
    exact Nat.le_refl _
  | succ q ih =>
    by_cases c : p = q + 1
    · subst c; exact Nat.le_refl _
    · have := ih (by omega)
      rw [yS]
      omega
section H9h
variable {sh : List Sh} {f : Nat} {B : Bk} {b e n V c : Nat} {ek : Nat → Nat}
theorem c_ruleIn {S : St} {p : Nat} (hV : V ≤ 3) (hp : p < V) (hc : c < 64) : F_X3_ruleIn sh f S (I c) (I V) (I p) = some (I (cdU V c p)) := by
  unfold F_X3_ruleIn cdU
  have e1 : (2 : Int32) * ((I V - 1) - I p) = I ((2 * (V - 1 - p) : Nat) : Int) := by
    rw [show (2 : Int32) = I 2 from rfl, show (1 : Int32) = I 1 from rfl, I_sub, I_sub, I_mul]
    congr 1
    omega
  have dl : c / 4 ^ (V - 1 - p) ≤ c := Nat.div_le_self _ _
  have key : ∀ d : Nat, d = c / 4 ^ (V - 1 - p) → I (d : Int) &&& 3 = I ((d % 4 : Nat) : Int) := by
    intro d hd
    rw [show (3 : Int32) = I ((3 : Nat) : Int) from rfl, I_and (by omega) (by omega), show (3 : Nat) = 2 ^ 2 - 1 from rfl, Nat.and_two_pow_sub_one_eq_mod]
  rw [e1, I_shr (by omega) (by omega), Nat.pow_mul, show 2 ^ 2 = 4 from rfl, key _ rfl]
theorem c_lay (hf : 1000 ≤ f) (S : St) (h : bkC S b B) (ok : bkOk B) (hb : b = 3 ∨ b = 61) (he : e = 44 ∨ e = 47 ∨ e = 50) (hn : 1 ≤ n ∧ n ≤ 6) (s2 : sI S e 2 = I n) (hk : ∀ i, i < n → ek i < bK B ∧ sA S (e + 1) i = I (ek i)) (hV : 1 ≤ V ∧ V ≤ 3) (hc : c < 64) : ∃ r S', F_X4_lay sh f S 14 b e (I V) (I c) = some (r, S') ∧ (yOk (yC B n ek V c) → r = 1 ∧ lyC S' 14 (yC B n ek V c)) ∧ (¬ yOk (yC B n ek V c) → r = 0) ∧ ∀ x, x < 14 ∨ 21 < x → Sm S S' x := by
  generalize hY : yC B n ek V c = Y
  have yb : yB Y = B := by rw [← hY]; rfl
  have yn : yN Y = n := by rw [← hY]; rfl
  have ye : yE Y = ek := by rw [← hY]; rfl
  have yv : yV Y = V := by rw [← hY]; rfl
  have yu : yU Y = cdU V c := by rw [← hY]; rfl
  have vb : 1 ≤ yV Y ∧ yV Y ≤ 3 := by rw [yv]; exact hV
  have k8 := ok.1.1
  have u4 : ∀ p, yU Y p < 4 := by
    intro p
    rw [yu]
    unfold cdU
    exact Nat.mod_lt _ (by omega)
  have pts : ∀ (d p nf : Nat) (T : St), p + d = V → d < nf → LA S T 14 Y (yS Y p) → yS Y p ≤ 12 → (∀ q, q < p → sA T 20 q = I (yU Y q) ∧ sA T 21 q = I (yS Y q) ∧ yU Y q < bR B) → (∀ q, q + 1 < p → yU Y q ≤ yU Y (q + 1)) → ∃ r S', F_X4_lay_L80 sh f 14 b e (I V) (I c) nf T (I p) = some (r, S') ∧ (yOk Y → r = 1 ∧ lyC S' 14 Y) ∧ (¬ yOk Y → r = 0) ∧ ∀ x, x < 14 ∨ 21 < x → Sm S S' x := by
    intro d
    induction d with
    | zero =>
      intro p nf T h1 h2 la le ru asc
      obtain ⟨nf, rfl⟩ : ∃ e, nf = e + 1 := ⟨nf - 1, by omega⟩
      have : p = V := by omega
      subst this
      obtain ⟨a1, a7, a8, a9, af⟩ := la
      have eL : yL Y = yS Y p := by unfold yL; rw [yv]
      have q2 : (I ((yS Y p : Nat) : Int) - I ((yS Y p : Nat) : Int) / 2 * 2 = 0) = (yS Y p % 2 = 0) := by
        rw [show (2 : Int32) = I 2 from rfl, show (0 : Int32) = I 0 from rfl, I_div (by omega) (by omega), I_mul, I_sub, I_eq (by omega) (by omega)]
        exact propext ⟨fun h => by omega, fun h => by omega⟩
      rw [F_X4_lay_L80, if_pos (by rw [I_leN (by omega) (by omega)]; omega), a9]
      simp only [q2]
      by_cases ev : yS Y p % 2 = 0
      · have YO : yOk Y := by
          refine ⟨by rw [yb]; exact ok, by rw [yn]; exact hn, fun i hi => ?_, vb, fun q hq => ?_, fun q hq => asc q (by omega), by omega, by omega⟩
          · rw [ye, yb]; exact (hk i (by omega)).1
          · rw [yb]; exact (ru q (by omega)).2.2
        have nl := N_le YO
        have fb : ∀ i, i < 12 → yF Y i < 12 := by
          intro i hi
          by_cases g : i < yN Y ∨ yL Y ≤ i
          · rw [f_out g]; exact hi
          · have := f_in YO (i := i) (by omega) (by omega)
            omega
        have kT : bkC T b (yB Y) := by
          rw [yb]
          exact bkC_sm h (fun x y z => af x (by omega))
        obtain ⟨M, m0, m1, m2, m3, m4, m5⟩ := c_mark (sh := sh) (f := f) (Y := Y) (b := b) (t := 14) hf T kT (by omega) (by rw [yb]; exact ok) (by omega) (k_lt YO) fb (by omega) a8 (by rw [a9, eL]) (fun j hj => by
          have := a1 j (by omega)
          exact ⟨this.1, this.2.2⟩)
        have M20 := m5 20 (by omega) (by omega) (by omega)
        have M21 := m5 21 (by omega) (by omega) (by omega)
        have nm := c_names (sh := sh) (f := f) (Y := Y) (t := 14) (S := M) hf YO ((m3 7 (by omega) (by omega)).trans a7) ((m3 8 (by omega) (by omega)).trans a8) (by rw [m3 9 (by omega) (by omega), a9, eL]) (fun q hq => by rw [M20.A]; exact (ru q (by omega)).1) (fun i hi => (m4 i hi).1)
        rw [if_pos ev, m0, Option.bind_some, nm, Option.bind_some]
        refine ⟨1, _, rfl, fun _ => ⟨rfl, ?_⟩, fun h => absurd YO h, fun x hx => ?_⟩
        · refine ⟨?_, ?_, ?_, ?_, ?_, sI_self _ _ _ _, fun i hi => ?_, fun q hq => ?_⟩
          · rw [sI_ne _ _ _ (by omega), m3 7 (by omega) (by omega), a7]
          · rw [sI_ne _ _ _ (by omega), m3 8 (by omega) (by omega), a8]
          · rw [sI_ne _ _ _ (by omega), m3 9 (by omega) (by omega), a9, eL]
          · rw [sI_ne _ _ _ (by omega), m1]
          · rw [sI_ne _ _ _ (by omega), m2]
          · obtain ⟨x1, x2, x3⟩ := a1 i (by omega)
            exact ⟨((m5 15 (by omega) (by omega) (by omega)).A i).trans x1, ((m5 16 (by omega) (by omega) (by omega)).A i).trans x2, ((m5 17 (by omega) (by omega) (by omega)).A i).trans x3, (m4 i hi).1, (m4 i hi).2⟩
          · obtain ⟨x1, x2, x3⟩ := ru q (by omega)
            exact ⟨(M20.A q).trans x1, (M21.A q).trans x2⟩
        · exact (af x (by omega)).trans ((m5 x (by omega) (by omega) (by omega)).trans (by repeat' (first | exact Sm.rfl | (refine Sm.uI ?_ (by omega)) | (refine Sm.uA ?_ (by omega)) | (refine Sm.uJ ?_ (by omega)) | (refine Sm.uL ?_ (by omega)) | (refine Sm.uR ?_ (by omega)))))
      · rw [if_neg ev]
        refine ⟨0, T, rfl, fun h => ?_, fun _ => rfl, fun x hx => af x (by omega)⟩
        have := h.2.2.2.2.2.2.2
        rw [eL] at this
        exact absurd this ev
    | succ d ih =>
      intro p nf T h1 h2 la le ru asc
      obtain ⟨nf, rfl⟩ : ∃ e, nf = e + 1 := ⟨nf - 1, by omega⟩
      have la' := la
      obtain ⟨a1, a7, a8, a9, af⟩ := la
      have c1 : ¬ I (V : Int) ≤ I p := by rw [I_leN (by omega) (by omega)]; omega
      have c3 : ¬ (3 : Int32) ≤ I p := by
        rw [show (3 : Int32) = I ((3 : Nat) : Int) from rfl, I_leN (by omega) (by omega)]; omega
      have rl := c_ruleIn (sh := sh) (f := f) (S := T) (V := V) (c := c) (p := p) hV.2 (by omega) hc
      rw [← yu] at rl
      have up := u4 p
      have kT : bkC T b B := bkC_sm h (fun x y z => af x (by omega))
      have bad : ¬ yOk Y → ∃ r S', some ((0 : Int32), T) = some (r, S') ∧ (yOk Y → r = 1 ∧ lyC S' 14 Y) ∧ (¬ yOk Y → r = 0) ∧ ∀ x, x < 14 ∨ 21 < x → Sm S S' x := fun hno => ⟨0, T, rfl, fun h => absurd h hno, fun _ => rfl, fun x hx => af x (by omega)⟩
      rw [F_X4_lay_L80, if_neg c1, if_neg c3, rl, Option.bind_some, kT.2.1]
      have r4 := ok.2.1
      have q1 : (I (bR B : Int) ≤ I (yU Y p)) = (bR B ≤ yU Y p) := I_leN (by omega) (by omega)
      simp only [q1]
      by_cases g1 : bR B ≤ yU Y p
      · rw [if_pos g1]
        apply bad
        intro hO
        have := hO.2.2.2.2.1 p (by omega)
        rw [yb] at this
        omega
      · rw [if_neg g1]
        have zz := ok.2.2.2 (yU Y p) (by omega)
        have eZ : yZ Y p = bZ B (yU Y p) := by unfold yZ; rw [yb]
        have s6 := (kT.2.2.2 (yU Y p) (by omega)).1
        have ucl : (I (yU Y p : Int)).toNatClampNeg = yU Y p := I_clN (by omega)
        have u0 : ¬ (I (yU Y p : Int) < 0 ∨ 4 ≤ yU Y p) := by
          rw [show (0 : Int32) = I 0 from rfl, I_lt (by omega) (by omega)]; omega
        have pcl : (I (p : Int)).toNatClampNeg = p := I_clN (by omega)
        have p0 : ¬ (I (p : Int) < 0 ∨ 3 ≤ p) := by
          rw [show (0 : Int32) = I 0 from rfl, I_lt (by omega) (by omega)]; omega
        have nx : I (p : Int) + 1 = I ((p + 1 : Nat) : Int) := by rw [show (1 : Int32) = I 1 from rfl, I_add]; rfl
        have z4 := zz.2.1
        have q3 : (I ((yS Y p : Nat) : Int) + I (bZ B (yU Y p)) ≤ 12) = (yS Y p + bZ B (yU Y p) ≤ 12) := by
          rw [I_add, show (12 : Int32) = I 12 from rfl, I_le (by omega) (by omega)]
          exact propext ⟨fun h => by omega, fun h => by omega⟩
        have go : (0 < p → yU Y (p - 1) ≤ yU Y p) → ∃ r S', F_X4_lay_L132 sh f 14 b e (I V) (I c) (F_X4_lay_L80 sh f 14 b e (I V) (I c) nf) T (I p) (I (yU Y p)) = some (r, S') ∧ (yOk Y → r = 1 ∧ lyC S' 14 Y) ∧ (¬ yOk Y → r = 0) ∧ ∀ x, x < 14 ∨ 21 < x → Sm S S' x := by
          intro hasc
          unfold F_X4_lay_L132
          simp only [ucl, if_neg u0, a9, s6, q3]
          by_cases g2 : yS Y p + bZ B (yU Y p) ≤ 12
          · rw [if_pos g2]
            generalize hU : uA T (14 + 6) p (I (yU Y p)) = U
            have u20 : ∀ q, sA U 20 q = up1 (sA T 20) p (I (yU Y p)) q := by
              intro q
              rw [← hU, sA_uA, if_pos rfl]
            have uf : ∀ x, x ≠ 20 → Sm T U x := by
              intro x hx
              rw [← hU]
              exact (by repeat' (first | exact Sm.rfl | (refine Sm.uI ?_ (by omega)) | (refine Sm.uA ?_ (by omega)) | (refine Sm.uJ ?_ (by omega)) | (refine Sm.uL ?_ (by omega)) | (refine Sm.uR ?_ (by omega))))
            have kU : bkC U b B := bkC_sm kT (fun x y z => uf x (by omega))
            obtain ⟨W, w0, w1, w2, w3, w4, w5, w6, w7⟩ := c_layPoint (sh := sh) (f := f) (B := B) (b := b) (t := 14) (r := yU Y p) (p := p) (m := yS Y p) hf U kU (by omega) ok (by omega) (by omega) (by show sA U 20 p = _; rw [u20, up1_self]) (((uf 14 (by omega)).I 9).trans a9) g2
            have w20 := w7 20 (by omega) (by omega) (by omega) (by omega)
            have hs : yS Y (p + 1) = yS Y p + bZ B (yU Y p) := by rw [yS, eZ]
            have LW : LA S W 14 Y (yS Y (p + 1)) := by
              refine ⟨fun i hi => ?_, ?_, ?_, ?_, fun x hx => ?_⟩
              · by_cases g3 : i < yS Y p
                · obtain ⟨x1, x2, x3⟩ := w5 i g3
                  obtain ⟨y1, y2, y3⟩ := a1 i g3
                  exact ⟨x1.trans (((uf 15 (by omega)).A i).trans y1), x2.trans (((uf 16 (by omega)).A i).trans y2), x3.trans (((uf 17 (by omega)).A i).trans y3)⟩
                · obtain ⟨q, rfl⟩ : ∃ q, i = yS Y p + q := ⟨i - yS Y p, by omega⟩
                  obtain ⟨x1, x2, x3⟩ := w6 q (by omega)
                  obtain ⟨t1, t2, t3⟩ := pt_b vb (i := yS Y p + q) (p := p) (by omega) (by omega) (by omega)
                  refine ⟨?_, ?_, ?_⟩
                  · rw [x1, k_in t2 t3, t1, yb, show yS Y p + q - yS Y p = q by omega]
                  · rw [x2]
                    unfold pI
                    rw [if_neg (by omega), t1]
                  · rw [x3]
                    unfold yF
                    rw [if_neg (by omega), t1, yb, show yS Y p + q - yS Y p = q by omega]
              · rw [w4 7 (by omega)]
                exact ((uf 14 (by omega)).I 7).trans a7
              · rw [w4 8 (by omega)]
                exact ((uf 14 (by omega)).I 8).trans a8
              · rw [w3, hs]
              · have := w7 x (by omega) (by omega) (by omega) (by omega)
                exact (af x hx).trans ((uf x (by omega)).trans (Sm.trans (Sm.uA Sm.rfl (by omega)) this))
            have ruW : ∀ q, q < p + 1 → sA W 20 q = I (yU Y q) ∧ sA W 21 q = I (yS Y q) ∧ yU Y q < bR B := by
              intro q hq
              have e20 : sA W 20 q = sA U 20 q := (w20.A q).trans (by rw [sA_row _ _ _ (by omega)])
              by_cases g3 : q = p
              · subst g3
                exact ⟨by rw [e20, u20, up1_self], w1, by omega⟩
              · obtain ⟨x1, x2, x3⟩ := ru q (by omega)
                exact ⟨by rw [e20, u20, up1_ne _ _ g3]; exact x1, (w2 q g3).trans (((uf 21 (by omega)).A q).trans x2), x3⟩
            obtain ⟨r, S', g4⟩ := ih (p + 1) nf W (by omega) (by omega) LW (by omega) ruW (fun q hq => by
              by_cases g3 : q + 1 = p
              · have := hasc (by omega)
                rw [← g3] at this
                exact this
              · exact asc q (by omega))
            refine ⟨r, S', ?_, g4.2⟩
            simp only [pcl, if_neg p0, bnd, hU, w0, Option.bind_some, nx]
            exact g4.1
          · rw [if_neg g2]
            apply bad
            intro hO
            have m1 : yS Y (p + 1) ≤ yL Y := by unfold yL; exact yS_mono (by omega)
            have := hO.2.2.2.2.2.2.1
            rw [yS, eZ] at m1
            omega
        have q4 : (I (p : Int) ≤ 0) = (p = 0) := by
          rw [show (0 : Int32) = I ((0 : Nat) : Int) from rfl, I_leN (by omega) (by omega)]
          exact propext ⟨fun h => by omega, fun h => by omega⟩
        simp only [q4]
        by_cases g5 : p = 0
        · rw [if_pos g5]; exact go (fun h => by omega)
        · rw [if_neg g5]
          have pm : I (p : Int) - 1 = I ((p - 1 : Nat) : Int) := by
            rw [show (1 : Int32) = I 1 from rfl, I_sub]; congr 1; omega
          have mcl : (I ((p - 1 : Nat) : Int)).toNatClampNeg = p - 1 := I_clN (by omega)
          have m0 : ¬ (I ((p - 1 : Nat) : Int) < 0 ∨ 3 ≤ p - 1) := by
            rw [show (0 : Int32) = I 0 from rfl, I_lt (by omega) (by omega)]; omega
          have um := u4 (p - 1)
          have q5 : (I (yU Y (p - 1) : Int) ≤ I (yU Y p)) = (yU Y (p - 1) ≤ yU Y p) := I_leN (by omega) (by omega)
          have r20 : sA T (14 + 6) (p - 1) = I (yU Y (p - 1)) := (ru (p - 1) (by omega)).1
          simp only [pm, mcl, if_neg m0, r20, q5]
          by_cases g6 : yU Y (p - 1) ≤ yU Y p
          · rw [if_pos g6]; exact go (fun _ => g6)
          · rw [if_neg g6]
            apply bad
            intro hO
            have := hO.2.2.2.2.2.1 (p - 1) (by omega)
            rw [show p - 1 + 1 = p by omega] at this
            omega
  have ends : ∀ (d i nf : Nat) (T : St), i + d = n → d < nf → (∀ j, j < i → sA T 15 j = I (yK Y j) ∧ sA T 16 j = pI Y j ∧ sA T 17 j = I (yF Y j)) → sI T 14 7 = I (yV Y) → sI T 14 8 = I (yN Y) → sI T 14 9 = I (yN Y) → (∀ x, x < 14 ∨ 21 < x → Sm S T x) → ∃ r S', F_X4_lay_L24 sh f 14 b e (I V) (I c) nf T (I i) = some (r, S') ∧ (yOk Y → r = 1 ∧ lyC S' 14 Y) ∧ (¬ yOk Y → r = 0) ∧ ∀ x, x < 14 ∨ 21 < x → Sm S S' x := by
    intro d
    induction d with
    | zero =>
      intro i nf T h1 h2 a1 a7 a8 a9 af
      obtain ⟨nf, rfl⟩ : ∃ e, nf = e + 1 := ⟨nf - 1, by omega⟩
      have : i = n := by omega
      subst this
      rw [F_X4_lay_L24, a8, yn, if_pos (by rw [I_leN (by omega) (by omega)]; omega)]
      have y0 : yS Y 0 = yN Y := rfl
      exact pts V 0 f T (by omega) (by omega) ⟨fun j hj => a1 j (by omega), a7, a8, a9, af⟩ (by omega) (fun q hq => by omega) (fun q hq => by omega)
    | succ d ih =>
      intro i nf T h1 h2 a1 a7 a8 a9 af
      obtain ⟨nf, rfl⟩ : ∃ e, nf = e + 1 := ⟨nf - 1, by omega⟩
      have c1 : ¬ I (n : Int) ≤ I i := by rw [I_leN (by omega) (by omega)]; omega
      have c6 : ¬ (6 : Int32) ≤ I i := by
        rw [show (6 : Int32) = I ((6 : Nat) : Int) from rfl, I_leN (by omega) (by omega)]; omega
      have icl : (I (i : Int)).toNatClampNeg = i := I_clN (by omega)
      have i6 : ¬ (I (i : Int) < 0 ∨ 6 ≤ i) := by
        rw [show (0 : Int32) = I 0 from rfl, I_lt (by omega) (by omega)]; omega
      have i12 : ¬ (I (i : Int) < 0 ∨ 12 ≤ i) := by
        rw [show (0 : Int32) = I 0 from rfl, I_lt (by omega) (by omega)]; omega
      have nx : I (i : Int) + 1 = I ((i + 1 : Nat) : Int) := by rw [show (1 : Int32) = I 1 from rfl, I_add]; rfl
      have se : sA T (e + 1) i = I (ek i) := ((af (e + 1) (by omega)).A i).trans (hk i (by omega)).2
      rw [F_X4_lay_L24, a8, yn, if_neg c1, if_neg c6]
      simp only [icl, if_neg i6, if_neg i12, se, bnd, nx]
      refine ih (i + 1) nf _ (by omega) (by omega) (fun j hj => ?_) a7 a8 a9 (fun x hx => (af x hx).trans (by repeat' (first | exact Sm.rfl | (refine Sm.uI ?_ (by omega)) | (refine Sm.uA ?_ (by omega)) | (refine Sm.uJ ?_ (by omega)) | (refine Sm.uL ?_ (by omega)) | (refine Sm.uR ?_ (by omega)))))
      refine ⟨?_, ?_, ?_⟩
      · rw [sA_row _ _ _ (by omega), sA_row _ _ _ (by omega), sA_uA, if_pos (by omega), up1_if]
        by_cases g : j = i
        · rw [if_pos g, g]
          unfold yK
          rw [if_pos (by omega), ye]
        · rw [if_neg g]; exact (a1 j (by omega)).1
      · rw [sA_row _ _ _ (by omega), sA_uA, if_pos (by omega), up1_if]
        by_cases g : j = i
        · rw [if_pos g, g]
          unfold pI
          rw [if_pos (by omega)]
        · rw [if_neg g, sA_row _ _ _ (by omega)]; exact (a1 j (by omega)).2.1
      · rw [sA_uA, if_pos (by omega), up1_if]
        by_cases g : j = i
        · rw [if_pos g, g, f_out (Or.inl (by omega))]
        · rw [if_neg g, sA_row _ _ _ (by omega), sA_row _ _ _ (by omega)]; exact (a1 j (by omega)).2.2
  unfold F_X4_lay
  simp only [bnd]
  have x2 : sI (uI S 14 7 (I V)) e 2 = I n := by rw [sI_row _ _ _ (by omega), s2]
  have x8 : sI (uI (uI S 14 7 (I V)) 14 8 (I n)) 14 8 = I n := sI_self _ _ _ _
  rw [x2, x8]
  refine ends n 0 f _ (by omega) (by omega) (fun j hj => by omega) ?_ ?_ ?_ (fun x hx => (by repeat' (first | exact Sm.rfl | (refine Sm.uI ?_ (by omega)) | (refine Sm.uA ?_ (by omega)) | (refine Sm.uJ ?_ (by omega)) | (refine Sm.uL ?_ (by omega)) | (refine Sm.uR ?_ (by omega)))))
  · rw [sI_ne _ _ _ (by omega), sI_ne _ _ _ (by omega), sI_self, yv]
  · rw [sI_ne _ _ _ (by omega), sI_self, yn]
  · rw [sI_self, yn]
end H9h
