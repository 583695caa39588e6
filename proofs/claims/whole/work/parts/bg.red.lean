section BGa
variable {sh : List Sh} {f : Nat} {S : St}
abbrev xcF (S S' : St) : Prop := ∀ x, x ≠ 41 → x ≠ 42 → Sm S S' x
theorem c_L61 (hf : 1000 ≤ f) {k : Nat} (hk : k < 25) (k55 : St → Int32 → Int32 → Option St) (l1 : Int32) : ∀ (c nf : Nat) (T : St) (a : Nat), c < nf → c < 63 → sA T 41 k = I c → lN3 T 42 → lv3 T 42 = a → ∃ T' a' c', F_X2_reduce_L61 sh f 40 k55 nf T l1 (I k) = k55 T' l1 (I ((k + 1 : Nat) : Int)) ∧ lN3 T' 42 ∧ lv3 T' 42 = (a' : Nat) ∧ c' ≤ c ∧ a = a' * pP k ^ (c - c') ∧ sA T' 41 k = I c' ∧ (c' = 0 ∨ ¬ pP k ∣ a') ∧ (∀ i, i ≠ k → sA T' 41 i = sA T 41 i) ∧ xcF T T' := by
  obtain ⟨q1, q2, q3⟩ := pP_tf ⟨k, hk⟩
  have pe : pP (⟨k, hk⟩ : Fin 25).val = pP k := rfl
  have nb : ¬ (I (k : Int) < 0 ∨ 25 ≤ k) := I_bnd hk (by omega)
  intro c
  induction c with
  | zero =>
    intro nf T a hn h63 h1 n va
    obtain ⟨nf, rfl⟩ : ∃ e, nf = e + 1 := ⟨nf - 1, by omega⟩
    have h1' : sA T (40 + 1) k = I ((0 : Nat) : Int) := h1
    rw [F_X2_reduce_L61, I_clN (show k < _ by omega), if_neg nb, h1', if_pos (by decide)]
    simp only [bnd, I_suc]
    exact ⟨T, a, 0, rfl, n, va, Nat.le_refl _, by simp, h1, Or.inl rfl, fun _ _ => rfl, fun _ _ _ => Sm.rfl⟩
  | succ c ih =>
    intro nf T a hn h63 h1 n va
    obtain ⟨nf, rfl⟩ : ∃ e, nf = e + 1 := ⟨nf - 1, by omega⟩
    have h1' : sA T (40 + 1) k = I ((c + 1 : Nat) : Int) := h1
    have em : lv3 T 42 % (pP k : Int) = ((a % pP k : Nat) : Int) := by rw [va]; rfl
    rw [F_X2_reduce_L61, I_clN (show k < _ by omega), if_neg nb, h1', if_neg (by rw [show (0 : Int32) = I ((0 : Nat) : Int) from rfl, I_leN (by omega) (by omega)]; omega), if_neg nb, c_isDiv (by omega) hk n, Option.bind_some, if10, em]
    by_cases z : ((a % pP k : Nat) : Int) = 0
    · have z' : a % pP k = 0 := by omega
      have dm := Nat.div_add_mod a (pP k)
      obtain ⟨U, u0, u1, u2, u3⟩ := c_divd (sh := sh) (f := f) (by omega) T hk n
      have vU : lv3 U 42 = ((a / pP k : Nat) : Int) := by rw [u2, va]; rfl
      have hU : sA U (40 + 1) k = I ((c + 1 : Nat) : Int) := ((u3 41 (by omega)).A k).trans h1
      have e1 : I ((c + 1 : Nat) : Int) - 1 = I (c : Int) := by
        rw [show (1 : Int32) = I 1 from rfl, I_sub]
        congr 1
        omega
      obtain ⟨T', a', c', t0, t1, t2, t3, t4, t5, t6, t7, t8⟩ := ih nf (uA U 41 k (I (c : Int))) (a / pP k) (by omega) (by omega) (by rw [sA_uA, if_pos rfl, up1_if, if_pos rfl]) (fun j hj => by rw [sL_uA]; exact u1 j hj) (by rw [← vU]; rfl)
      rw [if_pos z, if_neg nb, u0, Option.bind_some, if_neg nb, if_neg nb, hU, e1]
      simp only [bnd]
      refine ⟨T', a', c', t0, t1, t2, by omega, ?_, t5, t6, fun i hi => ?_, fun x hx hy => ((u3 x hy).uA hx).trans (t8 x hx hy)⟩
      · rw [show c + 1 - c' = (c - c') + 1 by omega, Nat.pow_succ, ← Nat.mul_assoc, ← t4]
        rw [Nat.mul_comm]
        omega
      · rw [t7 i hi, sA_uA, if_pos rfl, up1_if, if_neg hi]
        exact (u3 41 (by omega)).A i
    · rw [if_neg z]
      simp only [bnd, I_suc]
      exact ⟨T, a, c + 1, rfl, n, va, Nat.le_refl _, by simp, h1, Or.inr (fun q => z (by have := Nat.mod_eq_zero_of_dvd q; omega)), fun _ _ => rfl, fun _ _ _ => Sm.rfl⟩
theorem c_L55 (hf : 1000 ≤ f) (l1 : Int32) : ∀ (d k nf : Nat) (T : St) (E : Nat → Nat) (a : Nat), k + d = 25 → d < nf → (∀ i, i < 25 → sA T 41 i = I (E i) ∧ E i < 63) → lN3 T 42 → lv3 T 42 = a → (∀ i, i < k → E i = 0 ∨ ¬ pP i ∣ a) → ∃ T' E' a', F_X2_reduce_L55 sh f 40 nf T l1 (I k) = F_X2_reduce_L55 sh f 40 1 T' l1 (I ((25 : Nat) : Int)) ∧ (∀ i, i < 25 → sA T' 41 i = I ((E' i : Nat) : Int) ∧ E' i < 63) ∧ lN3 T' 42 ∧ lv3 T' 42 = (a' : Nat) ∧ a * pw E' 25 = a' * pw E 25 ∧ (∀ i, i < 25 → E' i = 0 ∨ ¬ pP i ∣ a') ∧ xcF T T' := by
  intro d
  induction d with
  | zero =>
    intro k nf T E a hk hn hE n va g
    obtain ⟨nf, rfl⟩ : ∃ e, nf = e + 1 := ⟨nf - 1, by omega⟩
    have : k = 25 := by omega
    subst this
    refine ⟨T, E, a, ?_, hE, n, va, rfl, g, fun _ _ _ => Sm.rfl⟩
    rw [F_X2_reduce_L55, if_pos (by decide), F_X2_reduce_L55, if_pos (by decide)]
  | succ d ih =>
    intro k nf T E a hk hn hE n va g
    obtain ⟨nf, rfl⟩ : ∃ e, nf = e + 1 := ⟨nf - 1, by omega⟩
    have k25 : k < 25 := by omega
    obtain ⟨U, a', c', u0, u1, u2, u3, u4, u5, u6, u7, u8⟩ := c_L61 (sh := sh) (f := f) hf k25 (F_X2_reduce_L55 sh f 40 nf) l1 (E k) f T a (by have := (hE k k25).2; omega) (hE k k25).2 (hE k k25).1 n va
    have pu := pw_up E (i := k) (v := c') (m := 25) k25
    have pk : 0 < pP k ^ c' := Nat.pow_pos (pP_ge k)
    have rel : pw E 25 = pw (up1 E k c') 25 * pP k ^ (E k - c') := by
      apply Nat.eq_of_mul_eq_mul_right pk
      rw [← pu, Nat.mul_assoc, ← Nat.pow_add, show E k - c' + c' = E k by omega]
    obtain ⟨T', E', a2, t0, t1, t2, t3, t4, t5, t6⟩ := ih (k + 1) nf U (up1 E k c') a' (by omega) (by omega) (fun i hi => by
      rw [up1_if]
      by_cases e : i = k
      · rw [if_pos e, e]; exact ⟨u5, by have := (hE k k25).2; omega⟩
      · rw [if_neg e, u7 i e]; exact hE i hi) u1 u2 (fun i hi => by
      rw [up1_if]
      by_cases e : i = k
      · rw [if_pos e, e]; exact u6
      · rw [if_neg e]
        rcases g i (by omega) with q | q
        · exact Or.inl q
        · exact Or.inr (fun p => q (by rw [u4]; exact Nat.dvd_trans p (Nat.dvd_mul_right _ _))))
    rw [F_X2_reduce_L55, if_neg (by rw [show (25 : Int32) = I ((25 : Nat) : Int) from rfl, I_leN (by omega) (by omega)]; omega), u0]
    refine ⟨T', E', a2, t0, t1, t2, t3, ?_, t5, fun x hx hy => (u8 x hx hy).trans (t6 x hx hy)⟩
    rw [rel, ← Nat.mul_assoc, ← t4, u4]
    grind
/-- what the cell of the exact sum tells -/
def xtV (S : St) (b : Bool) : Int64 := if sI S 40 3 = 0 then -9223372036854775808 else if b = true then sJ S 40 5 else sJ S 40 4
theorem c_L144 {y v : Int64} {a D : Nat} {t : Int} (ta : t.natAbs = a) (hy : y = if ((a : Nat) : Int) < 1152921504606846976 then J (a : Int) else J 900000000000000001) (hv : v = dsz D) (S : St) (s4 : a ≤ 900000000000000000 → sJ S 40 4 = J t) : ∃ S', F_X2_reduce_L144 sh f 40 S y 40 v = some S' ∧ (∀ b, xtV S' b = toldV t D b) ∧ ∀ x, x ≠ 40 → Sm S S' x := by
  have ly : (0 < lg_cmp y (900000000000000000 : Int64)) = (900000000000000000 < a) := by
    rw [hy, show (900000000000000000 : Int64) = J 900000000000000000 from rfl]
    by_cases c : ((a : Nat) : Int) < 1152921504606846976
    · rw [if_pos c, (lgz (by omega) (by omega)).2.2.1]
      exact propext ⟨fun h => by omega, fun h => by omega⟩
    · rw [if_neg c, (lgz (by omega) (by omega)).2.2.1]
      exact propext ⟨fun h => by omega, fun h => by omega⟩
  have lv : (0 < lg_cmp v (900000000000000000 : Int64)) = (900000000000000000 < D) := by
    rw [hv, show (900000000000000000 : Int64) = J 900000000000000000 from rfl]
    unfold dsz
    by_cases c : D ≤ 900000000000000000
    · rw [if_pos c, (lgz (by omega) (by omega)).2.2.1]
      exact propext ⟨fun h => by omega, fun h => by omega⟩
    · rw [if_neg c, (lgz (by omega) (by omega)).2.2.1]
      exact propext ⟨fun h => by omega, fun h => by omega⟩
  unfold F_X2_reduce_L144
  simp only [bnd, ly, sJ_self, lv]
  by_cases c1 : 900000000000000000 < a
  · rw [if_pos c1]
    refine ⟨_, rfl, fun b => ?_, fun x hx => (Sm.rfl.uJ hx).uI hx⟩
    unfold xtV toldV
    rw [sI_self, if_pos rfl, if_pos (Or.inl (by omega))]
  · rw [if_neg c1]
    by_cases c2 : 900000000000000000 < D
    · rw [if_pos c2]
      refine ⟨_, rfl, fun b => ?_, fun x hx => (Sm.rfl.uJ hx).uI hx⟩
      unfold xtV toldV
      rw [sI_self, if_pos rfl, if_pos (Or.inr c2)]
    · have hv2 : v = J D := by
        rw [hv]
        unfold dsz
        rw [if_pos (by omega)]
      rw [if_neg c2]
      refine ⟨_, rfl, fun b => ?_, fun x hx => (Sm.rfl.uJ hx).uI hx⟩
      unfold xtV toldV
      rw [sI_self, if_neg (by decide), if_neg (show ¬ (900000000000000000 < t.natAbs ∨ 900000000000000000 < D) by omega), sJ_uI, sJ_self, sJ_ne _ _ _ (by omega), s4 (by omega), hv2]
theorem c_126 (hf : 1000 ≤ f) {T : St} {E : Nat → Nat} {a : Nat} {t : Int} {y w : Int64} (hE : ∀ i, i < 25 → sA T 41 i = I ((E i : Nat) : Int) ∧ E i < 63) (g : ∀ i, i < 25 → E i = 0 ∨ ¬ pP i ∣ a) (ta : t.natAbs = a) (hy : y = if ((a : Nat) : Int) < 1152921504606846976 then J (a : Int) else J 900000000000000001) (hw : a ≤ 900000000000000000 → w = J t) : ∃ S', F_X2_reduce_L126 sh f 40 T y 40 w = some S' ∧ (∀ b, xtV S' b = toldV t (pw E 25) b) ∧ ∀ x, x ≠ 40 → Sm T S' x := by
  have y0 : (lg_cmp y 0 = 0) = (a = 0) := by
    rw [hy, show (0 : Int64) = J 0 from rfl]
    by_cases c : ((a : Nat) : Int) < 1152921504606846976
    · rw [if_pos c, (lgz (by omega) (by omega)).2.2.2]
      exact propext ⟨fun h => by omega, fun h => by omega⟩
    · rw [if_neg c, (lgz (by omega) (by omega)).2.2.2]
      exact propext ⟨fun h => by omega, fun h => by omega⟩
  unfold F_X2_reduce_L126
  simp only [bnd, y0]
  by_cases c : a = 0
  · have e0 : ∀ i, i < 25 → E i = 0 := fun i hi => by
      rcases g i hi with q | q
      · exact q
      · exact absurd (by rw [c]; exact Nat.dvd_zero _) q
    have e1 : pw E 25 = 1 := by
      have := pw_cg (e := E) (e' := fun _ => 0) (m := 25) e0
      rw [this, pw_0]
    have e2 : (1 : Int64) = dsz (pw E 25) := by
      rw [e1]
      unfold dsz
      rw [if_pos (by omega)]
      rfl
    obtain ⟨S', s0, s1, s2⟩ := c_L144 (sh := sh) (f := f) (y := y) (v := 1) (a := a) (D := pw E 25) (t := t) ta hy e2 (uJ T 40 4 w) (fun q => by rw [sJ_self]; exact hw q)
    rw [if_pos c]
    exact ⟨S', s0, s1, fun x hx => (Sm.rfl.uJ hx).trans (s2 x hx)⟩
  · have ds := c_denSize (sh := sh) (f := f) (S := uJ T 40 4 w) hf (E := E) hE
    obtain ⟨S', s0, s1, s2⟩ := c_L144 (sh := sh) (f := f) (y := y) (v := dsz (pw E 25)) (a := a) (D := pw E 25) (t := t) ta hy rfl (uJ T 40 4 w) (fun q => by rw [sJ_self]; exact hw q)
    rw [if_neg c, ds, Option.bind_some]
    exact ⟨S', s0, s1, fun x hx => (Sm.rfl.uJ hx).trans (s2 x hx)⟩
theorem c_end55 (hf : 1000 ≤ f) {T : St} {E : Nat → Nat} {a : Nat} {l1 : Int32} {t : Int} (hE : ∀ i, i < 25 → sA T 41 i = I ((E i : Nat) : Int) ∧ E i < 63) (n : lN3 T 42) (va : lv3 T 42 = (a : Nat)) (g : ∀ i, i < 25 → E i = 0 ∨ ¬ pP i ∣ a) (ht : l1 = 0 ∧ t = a ∨ l1 = 1 ∧ t = -(a : Int)) : ∃ S', F_X2_reduce_L55 sh f 40 1 T l1 (I ((25 : Nat) : Int)) = some S' ∧ (∀ b, xtV S' b = toldV t (pw E 25) b) ∧ ∀ x, x ≠ 40 → Sm T S' x := by
  have ta : t.natAbs = a := by omega
  have ns := c_numSize (sh := sh) (f := f) hf n
  rw [va] at ns
  generalize hy : (if ((a : Nat) : Int) < 1152921504606846976 then J (a : Int) else J 900000000000000001) = y at ns
  have st : F_X2_reduce_L55 sh f 40 1 T l1 (I ((25 : Nat) : Int)) = if l1 = 0 then F_X2_reduce_L126 sh f 40 T y 40 y else F_X2_reduce_L126 sh f 40 T y 40 (-y) := by
    rw [F_X2_reduce_L55, if_pos (by decide), ns, Option.bind_some]
  rw [st]
  rcases ht with ⟨z, tt⟩ | ⟨z, tt⟩
  · rw [z, if_pos rfl]
    exact c_126 hf hE g ta hy.symm (fun q => by rw [← hy, if_pos (by omega), tt])
  · rw [z, if_neg (by decide)]
    exact c_126 hf hE g ta hy.symm (fun q => by rw [← hy, if_pos (by omega), J_neg, tt])
theorem c_reduce (hf : 1000 ≤ f) (S : St) {E : Nat → Nat} (hE : ∀ i, i < 25 → sA S 41 i = I (E i) ∧ E i < 63) {M : Int} (hM : 1 ≤ M ∧ M ≤ 2305843009213693951) (lb : lB3 S M) (sm : ((lv3 S 42).natAbs : Int) < 1073741824 ^ 12) : ∃ S' t l, F_X2_reduce sh f S 40 = some S' ∧ (∀ b, xtV S' b = toldV t l b) ∧ t * (pw E 25 : Nat) = lv3 S 42 * l ∧ Nat.gcd t.natAbs l = 1 ∧ 0 < l ∧ ∀ x, x ≠ 40 → x ≠ 41 → x ≠ 42 → Sm S S' x := by
  have fin : ∀ (T : St) (l1 : Int32) (a : Nat), (∀ i, i < 25 → sA T 41 i = I (E i)) → lB3 T M → lv3 T 42 = a → (a : Int) < 1073741824 ^ 12 → (l1 = 0 ∧ lv3 S 42 = a ∨ l1 = 1 ∧ lv3 S 42 = -(a : Int)) → (∀ x, x ≠ 42 → Sm S T x) → ∃ S' t l, ((F_X2_carryOver sh f T 40 1).bind fun y2 => F_X2_reduce_L55 sh f 40 f y2.2 l1 0) = some S' ∧ (∀ b, xtV S' b = toldV t l b) ∧ t * (pw E 25 : Nat) = lv3 S 42 * l ∧ Nat.gcd t.natAbs l = 1 ∧ 0 < l ∧ ∀ x, x ≠ 40 → x ≠ 41 → x ≠ 42 → Sm S S' x := by
    intro T l1 a hT lT va al hl F
    obtain ⟨v, U, u0, u1, u2, u3⟩ := c_carry1 (sh := sh) (f := f) hf T hM lT
    have vU : lv3 U 42 = a := by
      rw [u2, va]
      exact Int.emod_eq_of_lt (by omega) al
    obtain ⟨V, E', a', v0, v1, v2, v3, v4, v5, v6⟩ := c_L55 (sh := sh) (f := f) hf l1 25 0 f U E a (by omega) (by omega) (fun i hi => ⟨((u3 41 (by omega)).A i).trans (hT i hi), (hE i hi).2⟩) u1 vU (fun i hi => by omega)
    have v0' : F_X2_reduce_L55 sh f 40 f U l1 0 = _ := v0
    have co := pw_all E' (n := a') 25 (by omega) v5
    rw [u0, Option.bind_some, v0']
    rcases hl with ⟨z, hS⟩ | ⟨z, hS⟩
    · obtain ⟨S', s0, s1, s2⟩ := c_end55 (sh := sh) (f := f) (t := (a' : Int)) hf v1 v2 v3 v5 (Or.inl ⟨z, rfl⟩)
      refine ⟨S', a', pw E' 25, s0, s1, ?_, by rw [Int.natAbs_natCast]; exact co, pw_pos _ _, fun x x0 x1 x2 => (((F x x2).trans (u3 x x2)).trans (v6 x x1 x2)).trans (s2 x x0)⟩
      rw [hS, ← Int.natCast_mul, ← Int.natCast_mul]
      exact congrArg (fun n : Nat => (n : Int)) v4.symm
    · obtain ⟨S', s0, s1, s2⟩ := c_end55 (sh := sh) (f := f) (t := -(a' : Int)) hf v1 v2 v3 v5 (Or.inr ⟨z, rfl⟩)
      refine ⟨S', -(a' : Int), pw E' 25, s0, s1, ?_, by rw [Int.natAbs_neg, Int.natAbs_natCast]; exact co, pw_pos _ _, fun x x0 x1 x2 => (((F x x2).trans (u3 x x2)).trans (v6 x x1 x2)).trans (s2 x x0)⟩
      rw [hS, Int.neg_mul, Int.neg_mul, ← Int.natCast_mul, ← Int.natCast_mul]
      exact congrArg (fun n : Nat => -(n : Int)) v4.symm
  have c0 := c_carry0 (sh := sh) (f := f) hf S hM lb
  have lg := (lgz (a := lv3 S 42 / 1073741824 ^ 12) (c := 0) (by omega) (by omega)).1
  have sg : (0 ≤ lv3 S 42 / 1073741824 ^ 12) = (0 ≤ lv3 S 42) := propext ⟨fun h => by omega, fun h => by omega⟩
  unfold F_X2_reduce
  rw [c0, Option.bind_some, show (0 : Int64) = J 0 from rfl]
  simp only [lg, sg]
  by_cases c : 0 ≤ lv3 S 42
  · rw [if_pos c]
    obtain ⟨f1, rfl⟩ : ∃ e, f = e + 1 := ⟨f - 1, by omega⟩
    rw [F_X2_reduce_L18, if_neg (by decide), if_pos rfl]
    exact fin S 0 (lv3 S 42).natAbs (fun i hi => (hE i hi).1) lb (by omega) (by omega) (Or.inl ⟨rfl, by omega⟩) (fun _ _ => Sm.rfl)
  · rw [if_neg c]
    have lp : ∀ (d k nf : Nat) (T : St), k + d = 12 → d < nf → (∀ j, j < 12 → sL T 42 j = if j < k then J (-(sL S 42 j).toInt) else sL S 42 j) → (∀ x, x ≠ 42 → Sm S T x) → ∃ T', F_X2_reduce_L18 sh f 40 nf T 1 (I k) = ((F_X2_carryOver sh f T' 40 1).bind fun y2 => F_X2_reduce_L55 sh f 40 f y2.2 1 0) ∧ (∀ j, j < 12 → sL T' 42 j = J (-(sL S 42 j).toInt)) ∧ ∀ x, x ≠ 42 → Sm S T' x := by
      intro d
      induction d with
      | zero =>
        intro k nf T hk hn g F
        obtain ⟨nf, rfl⟩ : ∃ e, nf = e + 1 := ⟨nf - 1, by omega⟩
        have : k = 12 := by omega
        subst this
        rw [F_X2_reduce_L18, if_pos (by decide)]
        exact ⟨T, rfl, fun j hj => by rw [g j hj, if_pos hj], F⟩
      | succ d ih =>
        intro k nf T hk hn g F
        obtain ⟨nf, rfl⟩ : ∃ e, nf = e + 1 := ⟨nf - 1, by omega⟩
        have nb : ¬ (I (k : Int) < 0 ∨ 12 ≤ k) := I_bnd (show k < 12 by omega) (by omega)
        have a1 : sL T (40 + 2) k = J (sL S 42 k).toInt := by
          have := g k (by omega)
          rw [if_neg (by omega)] at this
          rw [← J_of]
          exact this
        rw [F_X2_reduce_L18, if_neg (by rw [show (12 : Int32) = I ((12 : Nat) : Int) from rfl, I_leN (by omega) (by omega)]; omega), if_neg (by decide), I_clN (show k < _ by omega), if_neg nb, if_neg nb, a1, J_neg]
        simp only [bnd, I_suc]
        exact ih (k + 1) nf (uL T 42 k (J (-(sL S 42 k).toInt))) (by omega) (by omega) (fun j hj => by
          rw [sL_uL, if_pos rfl, up1_if]
          by_cases e : j = k
          · rw [if_pos e, if_pos (by omega), e]
          · rw [if_neg e, g j hj]
            by_cases q : j < k
            · rw [if_pos q, if_pos (by omega)]
            · rw [if_neg q, if_neg (by omega)]) (fun x hx => (F x hx).uL hx)
    obtain ⟨T', t0, t1, t2⟩ := lp 12 0 f S (by omega) (by omega) (fun j hj => by rw [if_neg (by omega)]) (fun _ _ => Sm.rfl)
    have tt : ∀ j, j < 12 → (sL T' 42 j).toInt = -(sL S 42 j).toInt := fun j hj => by
      have := lb j hj
      rw [t1 j hj, J_toInt (by omega)]
    have vT : lv3 T' 42 = - lv3 S 42 := by
      have e1 : lv3 T' 42 = dv 1073741824 (fun k => -(sL S 42 k).toInt) 12 := dv_cg tt
      rw [e1, dv_neg]
      rfl
    have t0' : F_X2_reduce_L18 sh f 40 f S 1 0 = _ := t0
    rw [t0']
    exact fin T' 1 (lv3 S 42).natAbs (fun i hi => ((t2 41 (by omega)).A i).trans (hE i hi).1) (fun k hk => by have := lb k hk; rw [tt k hk]; omega) (by rw [vT]; omega) (by omega) (Or.inr ⟨rfl, by omega⟩) t2
end BGa
