/-! SAME: the class reads a told row, and looks for the least of its drawing. -/
section AWa
variable {sh : List Sh} {f : Nat} {S : St} {Y : Ly}
theorem xor_sg (z : Int) (hz : -2147483648 ≤ z ∧ z < 2147483648) : ((0 : Int32) ≤ I z ^^^ 100) = (0 ≤ z) := by
  have m : (I z ^^^ 100).toBitVec.msb = ((I z).toBitVec.msb ^^ (100 : Int32).toBitVec.msb) := by
    rw [Int32.toBitVec_xor, BitVec.msb_xor]
  have a : (I z).toBitVec.msb = decide (z < 0) := by
    rw [BitVec.msb_eq_toInt]
    have : (I z).toBitVec.toInt = z := I_toInt hz
    rw [this]
  have c : (100 : Int32).toBitVec.msb = false := by decide
  have b : (I z ^^^ 100).toBitVec.msb = decide ((I z ^^^ 100).toInt < 0) := BitVec.msb_eq_toInt
  rw [a, c, b, Bool.xor_false, decide_eq_decide] at m
  rw [Int32.le_iff_toInt_le, show (0 : Int32).toInt = 0 from rfl]
  exact propext ⟨fun h => by omega, fun h => by omega⟩
theorem c_flr {z : Nat} (hz : z < 2147483648) : F_J9_floorDiv_7cf53 sh f S (I z) 100 = some (I ((z / 100 : Nat) : Int)) ∧ F_J9_floorMod_7cf53 sh f S (I z) 100 = some (I ((z % 100 : Nat) : Int)) := by
  have d : I (z : Int) / 100 = I ((z / 100 : Nat) : Int) := by
    rw [show (100 : Int32) = I 100 from rfl, I_div (by omega) (by omega)]
    rfl
  have s := xor_sg (z : Int) (by omega)
  constructor
  · unfold F_J9_floorDiv_7cf53
    rw [if_neg (by decide)]
    simp only [bnd, d, s]
    rw [if_pos (by omega)]
  · unfold F_J9_floorMod_7cf53
    rw [if_neg (by decide)]
    simp only [bnd, d, s]
    rw [if_pos (by omega), show (100 : Int32) = I 100 from rfl, I_mul, I_sub]
    congr 2
    omega
theorem c_flrn {z : Int} (h : z < 0) (hz : -2147483648 ≤ z) : ∃ a b, F_J9_floorDiv_7cf53 sh f S (I z) 100 = some a ∧ a < 0 ∧ F_J9_floorMod_7cf53 sh f S (I z) 100 = some b := by
  have s := xor_sg z (by omega)
  have s' : ¬ (0 : Int32) ≤ I z ^^^ 100 := by rw [s]; omega
  have d : I z / 100 = I (z.tdiv 100) := by
    rw [show (100 : Int32) = I 100 from rfl, ← Int32.toInt_inj, Int32.toInt_div, I_toInt (by omega), I_toInt (by omega)]
    have e1 : z.tdiv 100 = -((-z) / 100) := by
      rw [← Int.neg_neg z, Int.neg_tdiv, Int.tdiv_eq_ediv_of_nonneg (by omega), Int.neg_neg]
    rw [e1, I_toInt (by omega)]
    exact Int.bmod_eq_of_le (by omega) (by omega)
  have e1 : z.tdiv 100 = -((-z) / 100) := by
    rw [← Int.neg_neg z, Int.neg_tdiv, Int.tdiv_eq_ediv_of_nonneg (by omega), Int.neg_neg]
  unfold F_J9_floorDiv_7cf53 F_J9_floorMod_7cf53
  simp only [bnd, d, if_neg s', if_neg (show ¬ (100 : Int32) = 0 by decide)]
  have fd : ∃ a, (if I (z.tdiv 100) * 100 = I z then some (I (z.tdiv 100)) else some (I (z.tdiv 100) - 1)) = some a ∧ a < 0 := by
    by_cases c : I (z.tdiv 100) * 100 = I z
    · rw [if_pos c]
      refine ⟨_, rfl, ?_⟩
      rw [show (100 : Int32) = I 100 from rfl, I_mul, I_eq (by omega) (by omega)] at c
      rw [show (0 : Int32) = I 0 from rfl, I_lt (by omega) (by omega)]
      omega
    · rw [if_neg c]
      refine ⟨_, rfl, ?_⟩
      rw [show (1 : Int32) = I 1 from rfl, I_sub, show (0 : Int32) = I 0 from rfl, I_lt (by omega) (by omega)]
      omega
  obtain ⟨a, ha, hb⟩ := fd
  by_cases c : I z - I (z.tdiv 100) * 100 = 0
  · rw [if_pos c]
    exact ⟨a, _, ha, hb, rfl⟩
  · rw [if_neg c]
    exact ⟨a, _, ha, hb, rfl⟩
/-- the k-th digit that is told -/
def dgN (av : Nat → Int) (k : Nat) : Nat := if k % 2 = 0 then (av (k / 2)).toNat / 100 else (av (k / 2)).toNat % 100
/-- the row that is told -/
def tlR (av : Nat → Int) (L : Nat) (k : Nat) : Nat := if k < L then dgN av k else 99
def gdB (av : Nat → Int) (L m : Nat) : Bool := (List.range m).all (fun j => decide (2 * j < L → 0 ≤ av j ∧ (av j).toNat / 100 < L ∧ (av j).toNat % 100 < L))
theorem gdB_iff {av : Nat → Int} {L m : Nat} : gdB av L m = true ↔ ∀ j, j < m → 2 * j < L → 0 ≤ av j ∧ (av j).toNat / 100 < L ∧ (av j).toNat % 100 < L := by
  unfold gdB
  rw [List.all_eq_true]
  constructor
  · intro h j hj
    exact of_decide_eq_true (h j (List.mem_range.mpr hj))
  · intro h j hj
    exact decide_eq_true (h j (List.mem_range.mp hj))
def pkV (av : Nat → Int) (L m : Nat) : Int64 := if gdB av L m = true then J (e12 (prm (tlR av L) (min (2 * m) L))) else -1
theorem c_pack {av : Nat → Int} {L m : Nat} (hL : L ≤ 12) (hev : L % 2 = 0) (hm : m < 6) (hav : -2147483648 ≤ av m ∧ av m < 2147483648) : F_X8_packPair sh f S (I (av m)) (I ((2 * m : Nat) : Int)) (I L) (pkV av L m) = some (pkV av L (m + 1)) := by
  have st : gdB av L (m + 1) = (gdB av L m && decide (2 * m < L → 0 ≤ av m ∧ (av m).toNat / 100 < L ∧ (av m).toNat % 100 < L)) := by
    unfold gdB
    rw [List.range_succ, List.all_append, List.all_cons, List.all_nil, Bool.and_true]
  unfold F_X8_packPair
  rw [ite_leN (by omega) (by omega)]
  by_cases c : L ≤ 2 * m
  · rw [if_pos c]
    unfold pkV
    rw [st, decide_eq_true (show 2 * m < L → _ from fun h => by omega), Bool.and_true, show min (2 * (m + 1)) L = min (2 * m) L by omega]
  · rw [if_neg c]
    by_cases g : gdB av L m = true
    · have lt := e12_lt (prm (tlR av L) (min (2 * m) L))
      have q1 : (0 : Int32) ≤ lg_cmp (pkV av L m) 0 := by
        unfold pkV
        rw [if_pos g, ← I_nlt, show (0 : Int64) = J ((0 : Nat) : Int) from rfl, lgc_lt (by omega) (by omega)]
        omega
      rw [if_pos q1]
      by_cases n : 0 ≤ av m
      · obtain ⟨z, hz⟩ : ∃ z : Nat, av m = (z : Int) := ⟨(av m).toNat, by omega⟩
        obtain ⟨f1, f2⟩ := c_flr (sh := sh) (f := f) (S := S) (z := z) (by omega)
        rw [hz, f1, Option.bind_some, f2, Option.bind_some]
        have tz : (av m).toNat = z := by omega
        rw [tz] at st
        rw [if_neg (by rw [show (0 : Int32) = I ((0 : Nat) : Int) from rfl, I_ltN (by omega) (by omega)]; omega), ite_leN (by omega) (by omega)]
        by_cases a : L ≤ z / 100
        · rw [if_pos a]
          unfold pkV
          rw [st, decide_eq_false (by omega), Bool.and_false, if_neg (by decide)]
        · rw [if_neg a, ite_ltN (by omega) (by omega)]
          by_cases b : z % 100 < L
          · rw [if_pos b, c_inRow (by omega) (by omega), Option.bind_some, I_suc, c_inRow (by omega) (by omega), Option.bind_some]
            have d0 : tlR av L (2 * m) = z / 100 := by
              unfold tlR dgN
              rw [if_pos (by omega), if_pos (by omega), show 2 * m / 2 = m by omega, tz]
            have d1 : tlR av L (2 * m + 1) = z % 100 := by
              unfold tlR dgN
              rw [if_pos (by omega), if_neg (by omega), show (2 * m + 1) / 2 = m by omega, tz]
            have u0 := e12_up (π := prm (tlR av L) (2 * m)) (i := 2 * m) (j := z / 100) (by omega) (by omega) (by unfold prm; rw [if_neg (by omega)])
            rw [← d0, prm_s] at u0
            have u1 := e12_up (π := prm (tlR av L) (2 * m + 1)) (i := 2 * m + 1) (j := z % 100) (by omega) (by omega) (by unfold prm; rw [if_neg (by omega)])
            rw [← d1, prm_s] at u1
            have l1 := e12_lt (prm (tlR av L) (2 * m + 1))
            have l0 := e12_lt (prm (tlR av L) (2 * m))
            unfold pkV
            rw [st, g, Bool.true_and, if_pos (decide_eq_true (fun _ => ⟨n, by omega, b⟩)), if_pos rfl, show min (2 * m) L = 2 * m by omega, show min (2 * (m + 1)) L = 2 * m + 1 + 1 by omega, J_or (by omega) (nib_lt (by omega)), ← d0, ← u0, J_or (by omega) (nib_lt (by omega)), ← d1, ← u1]
          · rw [if_neg b]
            unfold pkV
            rw [st, decide_eq_false (by omega), Bool.and_false, if_neg (by decide)]
      · obtain ⟨a, b, f1, f3, f2⟩ := c_flrn (sh := sh) (f := f) (S := S) (z := av m) (by omega) hav.1
        rw [f1, Option.bind_some, f2, Option.bind_some, if_pos f3]
        unfold pkV
        rw [st, decide_eq_false (by omega), Bool.and_false, if_neg (by decide)]
    · have e : pkV av L m = -1 := by
        unfold pkV
        rw [if_neg g]
      have e' : pkV av L (m + 1) = -1 := by
        unfold pkV
        rw [st, eq_false_of_ne_true g, Bool.false_and, if_neg (by decide)]
      rw [e, e', if_neg (by decide)]
theorem prm_all {τ : Nat → Nat} {L : Nat} (o : ∀ i, ¬ i < L → τ i = 99) : prm τ L = τ := by
  funext x
  unfold prm
  by_cases d : x < L
  · rw [if_pos d]
  · rw [if_neg d, o x d]
theorem tlR_o (av : Nat → Int) (L : Nat) : ∀ i, ¬ i < L → tlR av L i = 99 := fun i hi => by
  unfold tlR
  rw [if_neg hi]
noncomputable def prB (Y : Ly) (τ : Nat → Nat) : Bool := @decide (yRw Y τ ∧ cn Y τ) (Classical.propDecidable _)
theorem prB_iff {τ : Nat → Nat} : prB Y τ = true ↔ yRw Y τ ∧ cn Y τ := by
  unfold prB
  exact @decide_eq_true_iff _ (Classical.propDecidable _)
theorem c_isPairing {τ : Nat → Nat} {t : Nat} (hf : 1000 ≤ f) (ok : yOk Y) (h : lyC S t Y) (hr : ∀ i, i < yL Y → τ i < yL Y) : F_X4_isPairing sh f S t (J (e12 τ)) = some (if prB Y τ = true then 1 else 0) := by
  have L12 := ok.2.2.2.2.2.2.1
  have pL : 2 ^ yL Y ≤ 2 ^ 12 := Nat.pow_le_pow_right (by omega) L12
  have gdall : (∀ x, x < yL Y → yMj Y x (τ x) = true ∧ τ (τ x) = x) → yRw Y τ ∧ ∀ i, i < yN Y → yN Y ≤ τ i := by
    intro g
    constructor
    · intro x hx
      have hx := List.mem_range.mp hx
      obtain ⟨a, b⟩ := g x hx
      have a := of_decide_eq_true a
      exact ⟨List.mem_range.mpr (hr x hx), b, a.1, a.2.1⟩
    · intro i hi
      have a := of_decide_eq_true (g i (by have := N_le ok; omega)).1
      omega
  have bad : ∀ x, x < yL Y → ¬ (yMj Y x (τ x) = true ∧ τ (τ x) = x) → ¬ prB Y τ = true := by
    intro x hx n p
    obtain ⟨w, c⟩ := prB_iff.mp p
    obtain ⟨a1, a2, a3, a4⟩ := yRw_lt w hx
    apply n
    refine ⟨decide_eq_true ⟨a3, a4, ?_⟩, a2⟩
    by_cases q : x < yN Y
    · exact Or.inr (c.1 x q)
    · exact Or.inl (by omega)
  have lp : ∀ (d i nf : Nat), i + d = yL Y → d < nf → (∀ x, x < i → yMj Y x (τ x) = true ∧ τ (τ x) = x) → F_X4_isPairing_L5 sh f S t (J (e12 τ)) nf (I (lkM Y τ i)) (I i) = some (if prB Y τ = true then 1 else 0) := by
    intro d
    induction d with
    | zero =>
      intro i nf h1 h2 g
      obtain ⟨nf, rfl⟩ : ∃ e, nf = e + 1 := ⟨nf - 1, by omega⟩
      have : i = yL Y := by omega
      subst this
      obtain ⟨w, no⟩ := gdall g
      rw [F_X4_isPairing_L5, h.2.2.1, if_pos (by rw [I_leN (by omega) (by omega)]; omega), c_hangs h ok (lkM_lt _), Option.bind_some]
      by_cases c : yV Y ≤ popN 12 (lkM Y τ (yL Y)) + 1
      · rw [if_pos c, if_neg (by simp), if_pos (prB_iff.mpr ⟨w, no, (hang_iff ok w).mp c⟩)]
      · rw [if_neg c, if_neg (by simp), if_neg (fun p => c ((hang_iff ok w).mpr (prB_iff.mp p).2.2))]
    | succ d ih =>
      intro i nf h1 h2 g
      obtain ⟨nf, rfl⟩ : ∃ e, nf = e + 1 := ⟨nf - 1, by omega⟩
      have hi : i < yL Y := by omega
      have ri := hr i hi
      have p1 := c_partnerIn (sh := sh) (f := f) (S := S) (π := τ) (i := i) (by omega)
      rw [zz_row L12 hr hi] at p1
      have p2 := c_partnerIn (sh := sh) (f := f) (S := S) (π := τ) (i := τ i) (by omega)
      rw [zz_row L12 hr ri] at p2
      have rr := hr _ ri
      have mk : sA S (t + 5) i = I (mkb (yMj Y i) (yL Y)) := (h.2.2.2.2.2.2.1 i hi).2.2.2.2
      have lm := mkb_lt (yMj Y i) (yL Y)
      have bt : (((I (mkb (yMj Y i) (yL Y) : Int)) >>> (I (τ i : Int) &&& 31)) &&& 1 = 0) = (yMj Y i (τ i) = false) := by
        rw [I_bit (by omega) (by omega), mkb_tb, decide_eq_true ri, Bool.true_and]
      rw [F_X4_isPairing_L5, h.2.2.1, if_neg (by rw [I_leN (by omega) (by omega)]; omega), p1, Option.bind_some, if_neg (by rw [I_leN (by omega) (by omega)]; omega), I_clN (by omega), if_neg (I_bnd (show i < 12 by omega) (by omega)), mk]
      simp only [bt]
      by_cases c1 : yMj Y i (τ i) = false
      · rw [if_pos c1, if_neg (bad i hi (fun q => by rw [c1] at q; exact absurd q.1 (by decide)))]
      · rw [if_neg c1, p2, Option.bind_some, ite_eqN (by omega) (by omega)]
        by_cases c2 : τ (τ i) = i
        · rw [if_pos c2, c_link h ok hi ri, Option.bind_some]
          simp only [bnd, I_suc]
          rw [I_or (by have := lkM_lt (Y := Y) (ρ := τ) i; omega) (by have := lkN_lt Y i (τ i); omega), ← lkM_s]
          exact ih (i + 1) nf (by omega) (by omega) (fun x hx => by
            by_cases q : x = i
            · rw [q]; exact ⟨by simpa using c1, c2⟩
            · exact g x (by omega))
        · rw [if_neg c2, if_neg (bad i hi (fun q => c2 q.2))]
  have z : lkM Y τ 0 = 0 := lkM_N 0 (Nat.zero_le _)
  have := lp (yL Y) 0 f (by omega) (by omega) (fun x hx => by omega)
  rw [z] at this
  exact this
/-- the least number among the rows that the swaps give -/
noncomputable def mnN (Y : Ly) (τ : Nat → Nat) : Nat → Nat
  | 0 => e12 τ
  | s + 1 => if kpB Y s = true then min (mnN Y τ s) (e12 (yLs Y s τ)) else mnN Y τ s
theorem mn_le (τ : Nat → Nat) : ∀ s, mnN Y τ s ≤ e12 τ
  | 0 => Nat.le_refl _
  | s + 1 => by
    have := mn_le τ s
    rw [mnN]
    by_cases c : kpB Y s = true
    · rw [if_pos c]; omega
    · rw [if_neg c]; exact this
theorem c_leastOf {τ : Nat → Nat} {b e n V c : Nat} {B : Bk} {ek : Nat → Nat} (hf : 1000 ≤ f) (kb : bkC S b B) (bo : bkOk B) (hb : b = 3 ∨ b = 61) (he : e = 44) (hn : 1 ≤ n ∧ n ≤ 6) (s2 : sI S e 2 = I n) (hk : ∀ i, i < n → ek i < bK B ∧ sA S (e + 1) i = I (ek i)) (hV : 1 ≤ V ∧ V ≤ 3) (hc : c < 64) (ok : yOk (yC B n ek V c)) (z : jnC S (fun _ _ => 0)) (hr : ∀ i, i < yL (yC B n ek V c) → τ i < yL (yC B n ek V c)) : ∃ S', F_X5_leastOf sh f S 13 b e (I V) (I c) (J (e12 τ)) = some (if prB (yC B n ek V c) τ = true then J (mnN (yC B n ek V c) τ 6) else -1, S') ∧ jnC S' (fun _ _ => 0) ∧ ∀ x, x < 14 ∨ 22 < x → Sm S S' x := by
  obtain ⟨r, U, u0, u1, u2, u3⟩ := c_lay (sh := sh) (f := f) hf S kb bo hb (Or.inl he) hn s2 hk hV hc
  obtain ⟨r1, ly⟩ := u1 ok
  subst r1
  generalize yC B n ek V c = Y at *
  have jU : jnC U (fun _ _ => 0) := jnC_sm z (u3 22 (by omega))
  have u0' : F_X4_lay sh f S (13 + 1) b e (I V) (I c) = some (1, U) := u0
  have ip : F_X4_isPairing sh f U (13 + 1) (J (e12 τ)) = _ := c_isPairing (sh := sh) (f := f) hf ok ly hr
  unfold F_X5_leastOf
  rw [u0', Option.bind_some, if_neg (show ¬ (1 : Int32) = 0 by decide), ip, Option.bind_some]
  by_cases pr : prB Y τ = true
  · obtain ⟨w, cc⟩ := prB_iff.mp pr
    rw [if_pos pr, if_neg (by decide), if_pos pr]
    have lp : ∀ (d s nf : Nat) (T : St), s + d = 6 → d < nf → (∀ x, x ≠ 22 → Sm U T x) → jnC T (fun _ _ => 0) → ∃ S', F_X5_leastOf_L38 sh f 13 b e (I V) (I c) (J (e12 τ)) nf T (J (mnN Y τ s)) (I s) = some (J (mnN Y τ 6), S') ∧ jnC S' (fun _ _ => 0) ∧ ∀ x, x ≠ 22 → Sm U S' x := by
      intro d
      induction d with
      | zero =>
        intro s nf T h1 h2 fT jT
        obtain ⟨nf, rfl⟩ : ∃ e, nf = e + 1 := ⟨nf - 1, by omega⟩
        have : s = 6 := by omega
        subst this
        rw [F_X5_leastOf_L38, if_pos (by decide)]
        exact ⟨T, rfl, jT, fT⟩
      | succ d ih =>
        intro s nf T h1 h2 fT jT
        obtain ⟨nf, rfl⟩ : ∃ e, nf = e + 1 := ⟨nf - 1, by omega⟩
        have lT := lyC_sm ly (S' := T) (fun x _ _ => fT x (by omega))
        have kp : F_X4_keepsRules sh f T (13 + 1) (I s) = _ := c_keeps (sh := sh) hf lT ok (show s < 6 by omega)
        rw [F_X5_leastOf_L38, if_neg (by rw [show (6 : Int32) = I ((6 : Nat) : Int) from rfl, I_leN (by omega) (by omega)]; omega), kp, Option.bind_some]
        by_cases kk : kpB Y s = true
        · have hs : s ∈ yPP Y := mem_PP.mpr ⟨by omega, kpB_iff.mp kk⟩
          obtain ⟨A, a0, a1, af⟩ := c_tally (sh := sh) hf lT ok w hs jT
          obtain ⟨W, w0, w1, wf⟩ := c_least (sh := sh) hf (lyC_sm lT (S' := A) (fun x _ _ => af x (by omega))) ok (cg_rw (y_Gp ok) hs w) a1
          have w0' : F_X5_leastTallied sh f A 13 = some (J (e12 (yLs Y s τ)), W) := w0
          have l1 := e12_lt (yLs Y s τ)
          have l2 := mn_le (Y := Y) τ s
          have l3 := e12_lt τ
          have mn : F_J9_min_f86c9 sh f W (J (mnN Y τ s)) (J (e12 (yLs Y s τ))) = some (J (mnN Y τ (s + 1))) := by
            unfold F_J9_min_f86c9
            rw [mnN, if_pos kk]
            have q : ((0 : Int32) < lg_cmp (J (mnN Y τ s)) (J (e12 (yLs Y s τ)))) = (e12 (yLs Y s τ) < mnN Y τ s) := by
              rw [← I_nle, lgc_le (by omega) (by omega)]
              exact propext ⟨fun h => by omega, fun h => by omega⟩
            simp only [q]
            by_cases g : e12 (yLs Y s τ) < mnN Y τ s
            · rw [if_pos g, Nat.min_eq_right (by omega)]
            · rw [if_neg g, Nat.min_eq_left (by omega)]
          rw [if_pos kk, if_neg (by decide), a0, Option.bind_some]
          simp only
          rw [w0', Option.bind_some]
          simp only
          rw [mn, Option.bind_some]
          simp only [bnd, I_suc]
          exact ih (s + 1) nf W (by omega) (by omega) (fun x hx => ((fT x hx).trans (af x hx)).trans (wf x hx)) w1
        · rw [if_neg kk, if_pos rfl]
          simp only [bnd, I_suc]
          have := ih (s + 1) nf T (by omega) (by omega) fT jT
          rw [mnN, if_neg kk] at this
          exact this
    obtain ⟨S', s0, s1, s3⟩ := lp 6 0 f U (by omega) (by omega) (fun _ _ => Sm.rfl) jU
    have s0' : F_X5_leastOf_L38 sh f 13 b e (I V) (I c) (J (e12 τ)) f U (J (e12 τ)) 0 = _ := s0
    rw [s0']
    exact ⟨S', rfl, s1, fun x hx => (u3 x (by omega)).trans (s3 x (by omega))⟩
  · rw [if_neg pr, if_pos rfl, if_neg pr]
    exact ⟨U, rfl, jU, fun x hx => u3 x (by omega)⟩
end AWa
