section BDa
variable {sh : List Sh} {f : Nat} {S : St}
def pws (e : Nat → Nat) (k : Nat) : Nat → Nat
  | 0 => 1
  | d + 1 => pP k ^ e k * pws e (k + 1) d
theorem pws_pw (e : Nat → Nat) : ∀ d k, pw e k * pws e k d = pw e (k + d)
  | 0, k => by rw [pws, Nat.mul_one]; rfl
  | d + 1, k => by
    have := pws_pw e d (k + 1)
    rw [pws, ← Nat.mul_assoc, show pw e k * pP k ^ e k = pw e (k + 1) from rfl, this, show k + 1 + d = k + (d + 1) by omega]
theorem pws_pos (e : Nat → Nat) : ∀ d k, 1 ≤ pws e k d
  | 0, _ => by rw [pws]; omega
  | d + 1, k => by
    have a := pws_pos e d (k + 1)
    have b : 1 ≤ pP k ^ e k := Nat.pow_pos (pP_ge k)
    rw [pws]
    exact Nat.mul_pos b a
theorem c_add52 (hf : 1000 ≤ f) {E e : Nat → Nat} (hE : ∀ i, i < 25 → E i < 63 ∧ e i ≤ E i) (hd : pw e 25 < 9223372036854775808) (p1 : Int64) : ∀ (d k nf : Nat) (T : St), k + d = 25 → d < nf → (∀ i, i < 25 → sA T 41 i = I (E i)) → lN3 T 43 → lv3 T 43 * (pws (fun i => E i - e i) k d : Nat) < 1073741824 ^ 12 → ∃ T', F_X2_add_L52 sh f 40 p1 (J (pw e 25 : Nat)) nf T (I k) = F_X2_add_L108 sh f 40 p1 (J (pw e 25 : Nat)) f T' 0 ∧ lN3 T' 43 ∧ lv3 T' 43 = lv3 T 43 * (pws (fun i => E i - e i) k d : Nat) ∧ ∀ x, x ≠ 43 → Sm T T' x := by
  intro d
  induction d with
  | zero =>
    intro k nf T hk hn h1 n sm
    obtain ⟨nf, rfl⟩ : ∃ e, nf = e + 1 := ⟨nf - 1, by omega⟩
    have : k = 25 := by omega
    subst this
    rw [F_X2_add_L52, if_pos (by decide)]
    exact ⟨T, rfl, n, by rw [pws]; simp, fun _ _ => Sm.rfl⟩
  | succ d ih =>
    intro k nf T hk hn h1 n sm
    obtain ⟨nf, rfl⟩ : ∃ e, nf = e + 1 := ⟨nf - 1, by omega⟩
    have k25 : k < 25 := by omega
    obtain ⟨e1, e2⟩ := hE k k25
    have nb : ¬ (I (k : Int) < 0 ∨ 25 ≤ k) := I_bnd k25 (by omega)
    have x1 := (c_expo (sh := sh) (S := T) hf (e := e) (i := k) k25 hd).1
    have b := lv3_bd n
    have pos := pws_pos (fun i => E i - e i) d (k + 1)
    have sp : lv3 T 43 * (pws (fun i => E i - e i) k (d + 1) : Nat) = lv3 T 43 * (pP k : Int) ^ (E k - e k) * (pws (fun i => E i - e i) (k + 1) d : Nat) := by
      rw [pws, Int.natCast_mul, Int.natCast_pow, Int.mul_assoc]
    rw [sp] at sm
    have nn : 0 ≤ lv3 T 43 * (pP k : Int) ^ (E k - e k) := Int.mul_nonneg b.1 (Int.pow_nonneg (by omega))
    have le : lv3 T 43 * (pP k : Int) ^ (E k - e k) * 1 ≤ lv3 T 43 * (pP k : Int) ^ (E k - e k) * (pws (fun i => E i - e i) (k + 1) d : Nat) := Int.mul_le_mul_of_nonneg_left (by omega) nn
    obtain ⟨U, u0, u1, u2, u3⟩ := c_add71 (sh := sh) (f := f) (a0 := 0) hf k25 p1 (J (pw e 25 : Nat)) (F_X2_add_L52 sh f 40 p1 (J (pw e 25 : Nat)) nf) e1 (E k - e k) (e k) f T (by omega) (by omega) (h1 k k25) n (by omega)
    obtain ⟨T', t0, t1, t2, t3⟩ := ih (k + 1) nf U (by omega) (by omega) (fun i hi => by rw [(u3 41 (by omega)).A]; exact h1 i hi) u1 (by rw [u2]; exact sm)
    rw [F_X2_add_L52, if_neg (by rw [show (25 : Int32) = I ((25 : Nat) : Int) from rfl, I_leN (by omega) (by omega)]; omega), I_clN (show k < _ by omega), if_neg nb, x1, Option.bind_some, u0]
    exact ⟨T', t0, t1, by rw [t2, u2, sp], fun x hx => (u3 x hx).trans (t3 x hx)⟩
theorem c_add108 {top : Int} (ht : -9223372036854775808 ≤ top ∧ top < 9223372036854775808) (p3 : Int64) {M : Int} (hM : 0 ≤ M ∧ M ≤ 1073741824000) {A D : Nat → Int} (hA : ∀ k, k < 12 → -M ≤ A k ∧ A k ≤ M) (hD : ∀ k, k < 12 → 0 ≤ D k ∧ D k < 1073741824) : ∀ (d k nf : Nat) (T : St), k + d = 12 → d < nf → (∀ j, j < 12 → sL T 42 j = J (if j < k then A j + (if 0 ≤ top then D j else - D j) else A j)) → (∀ j, j < 12 → sL T 43 j = J (D j)) → ∃ T', F_X2_add_L108 sh f 40 (J top) p3 nf T (I k) = some T' ∧ (∀ j, j < 12 → sL T' 42 j = J (A j + (if 0 ≤ top then D j else - D j))) ∧ ∀ x, x ≠ 42 → Sm T T' x := by
  intro d
  induction d with
  | zero =>
    intro k nf T hk hn g g3
    obtain ⟨nf, rfl⟩ : ∃ e, nf = e + 1 := ⟨nf - 1, by omega⟩
    have : k = 12 := by omega
    subst this
    rw [F_X2_add_L108, if_pos (by decide)]
    exact ⟨T, rfl, fun j hj => by rw [g j hj, if_pos hj], fun _ _ => Sm.rfl⟩
  | succ d ih =>
    intro k nf T hk hn g g3
    obtain ⟨nf, rfl⟩ : ∃ e, nf = e + 1 := ⟨nf - 1, by omega⟩
    have nb : ¬ (I (k : Int) < 0 ∨ 12 ≤ k) := I_bnd (show k < 12 by omega) (by omega)
    have a1 : sL T (40 + 2) k = J (A k) := by
      have := g k (by omega)
      rw [if_neg (by omega)] at this
      exact this
    have a2 : sL T (40 + 3) k = J (D k) := g3 k (by omega)
    have lg := (lgz (a := top) (c := 0) ht (by omega)).1
    have st : ∀ x : Int64, x = J (A k + (if 0 ≤ top then D k else - D k)) → ∃ T', F_X2_add_L108 sh f 40 (J top) p3 nf (uL T 42 k x) (I ((k + 1 : Nat) : Int)) = some T' ∧ (∀ j, j < 12 → sL T' 42 j = J (A j + (if 0 ≤ top then D j else - D j))) ∧ ∀ x, x ≠ 42 → Sm T T' x := fun x hx => by
      obtain ⟨T', t0, t1, t2⟩ := ih (k + 1) nf (uL T 42 k x) (by omega) (by omega) (fun j hj => by
        rw [sL_uL, if_pos rfl, up1_if]
        by_cases e : j = k
        · rw [if_pos e, if_pos (show j < k + 1 by omega), e, hx]
        · rw [if_neg e, g j hj]
          by_cases q : j < k
          · rw [if_pos q, if_pos (show j < k + 1 by omega)]
          · rw [if_neg q, if_neg (show ¬ j < k + 1 by omega)]) (fun j hj => by rw [sL_uL, if_neg (by omega)]; exact g3 j hj)
      exact ⟨T', t0, t1, fun x hx => (Sm.rfl.uL hx).trans (t2 x hx)⟩
    rw [F_X2_add_L108, if_neg (by rw [show (12 : Int32) = I ((12 : Nat) : Int) from rfl, I_leN (by omega) (by omega)]; omega), I_clN (show k < _ by omega), if_neg nb, if_neg nb, if_neg nb, show (0 : Int64) = J 0 from rfl]
    simp only [lg]
    by_cases c : 0 ≤ top
    · rw [if_pos c, a1, a2, J_add]
      simp only [bnd, I_suc]
      exact st _ (by rw [if_pos c])
    · rw [if_neg c, if_neg nb, if_neg nb, a1, a2, J_neg, J_add]
      simp only [bnd, I_suc]
      exact st _ (by rw [if_neg c])
theorem c_add16 (hf : 1000 ≤ f) {a : Int} (ha : 0 ≤ a ∧ a < 9223372036854775808) (p1 p3 : Int64) : ∀ (d k nf : Nat) (T : St), k + d = 12 → d < nf → (∀ j, j < k → sL T 43 j = J ((cq (fun _ => 0) a j + 0) % 1073741824)) → ∃ T', F_X2_add_L16 sh f 40 p1 p3 nf T (J (cq (fun _ => 0) a k)) (I k) = F_X2_add_L52 sh f 40 p1 p3 f T' 0 ∧ (∀ j, j < 12 → sL T' 43 j = J ((cq (fun _ => 0) a j + 0) % 1073741824)) ∧ ∀ x, x ≠ 43 → Sm T T' x := by
  have cb : ∀ k, 0 ≤ cq (fun _ => 0) a k ∧ cq (fun _ => 0) a k < 9223372036854775808 := by
    intro k
    induction k with
    | zero => exact ha
    | succ k ih => rw [cq]; omega
  intro d
  induction d with
  | zero =>
    intro k nf T hk hn g
    obtain ⟨nf, rfl⟩ : ∃ e, nf = e + 1 := ⟨nf - 1, by omega⟩
    have : k = 12 := by omega
    subst this
    rw [F_X2_add_L16, if_pos (by decide)]
    exact ⟨T, rfl, g, fun _ _ => Sm.rfl⟩
  | succ d ih =>
    intro k nf T hk hn g
    obtain ⟨nf, rfl⟩ : ∃ e, nf = e + 1 := ⟨nf - 1, by omega⟩
    have nb : ¬ (I (k : Int) < 0 ∨ 12 ≤ k) := I_bnd (show k < 12 by omega) (by omega)
    have ck := cb k
    rw [F_X2_add_L16, if_neg (by rw [show (12 : Int32) = I ((12 : Nat) : Int) from rfl, I_leN (by omega) (by omega)]; omega), I_clN (show k < _ by omega), if_neg nb]
    simp only [bnd]
    rw [J_msk, J_sar (by omega), I_suc]
    have e1 : cq (fun _ => 0) a k / 1073741824 = cq (fun _ => 0) a (k + 1) := by rw [cq, Int.add_zero]
    rw [e1]
    obtain ⟨T', t0, t1, t2⟩ := ih (k + 1) nf (uL T 43 k (J (cq (fun _ => 0) a k % 1073741824))) (by omega) (by omega) (fun j hj => by
      rw [sL_uL, if_pos rfl, up1_if]
      by_cases e : j = k
      · rw [if_pos e, e, Int.add_zero]
      · rw [if_neg e]; exact g j (by omega))
    exact ⟨T', t0, t1, fun x hx => (Sm.rfl.uL hx).trans (t2 x hx)⟩
/-- limbs that are no greater than M -/
def lB3 (S : St) (M : Int) : Prop := ∀ k, k < 12 → -M ≤ (sL S 42 k).toInt ∧ (sL S 42 k).toInt ≤ M
theorem c_xadd (hf : 1000 ≤ f) (S : St) {E e : Nat → Nat} (hE : ∀ i, i < 25 → sA S 41 i = I (E i) ∧ E i < 63 ∧ e i ≤ E i) (hd : pw e 25 < 9223372036854775808) {top : Int} (ht : -9223372036854775808 < top ∧ top < 9223372036854775808) {M : Int} (hM : 0 ≤ M ∧ M ≤ 1073741824000) (lb : lB3 S M) (sm : ((top.natAbs * pw (fun i => E i - e i) 25 : Nat) : Int) < 1073741824 ^ 12) : ∃ S', F_X2_add sh f S 40 (J top) (J (pw e 25 : Nat)) = some S' ∧ lB3 S' (M + 1073741824) ∧ lv3 S' 42 = lv3 S 42 + top * (pw (fun i => E i - e i) 25 : Nat) ∧ ∀ x, x ≠ 42 → x ≠ 43 → Sm S S' x := by
  unfold F_X2_add
  have lg := (lgz (a := top) (c := 0) (by omega) (by omega)).2.2.2
  rw [show (0 : Int64) = J 0 from rfl]
  simp only [lg]
  by_cases z : top = 0
  · rw [if_pos z]
    exact ⟨S, rfl, fun k hk => by have := lb k hk; omega, by rw [z]; simp, fun _ _ _ => Sm.rfl⟩
  · obtain ⟨A, a0, a1, a2⟩ := c_add16 (sh := sh) (f := f) hf (a := (top.natAbs : Int)) (by omega) (J top) (J (pw e 25 : Nat)) 12 0 f S (by omega) (by omega) (fun j hj => by omega)
    obtain ⟨n1, v1⟩ := dig_val a1
    have z12 : dv 1073741824 (fun _ => 0) 12 = 0 := dv_zero 12
    have va : lv3 A 43 = (top.natAbs : Int) := by
      rw [v1, z12, Int.add_zero]
      exact Int.emod_eq_of_lt (by omega) (by omega)
    have pp : pws (fun i => E i - e i) 0 25 = pw (fun i => E i - e i) 25 := by
      have := pws_pw (fun i => E i - e i) 25 0
      rw [show pw (fun i => E i - e i) 0 = 1 from rfl, Nat.one_mul] at this
      exact this
    obtain ⟨B, b0, b1, b2, b3⟩ := c_add52 (sh := sh) (f := f) hf (fun i hi => (hE i hi).2) hd (J top) 25 0 f A (by omega) (by omega) (fun i hi => by rw [(a2 41 (by omega)).A]; exact (hE i hi).1) n1 (by rw [va, pp, ← Int.natCast_mul]; exact sm)
    obtain ⟨C, c0, c1, c2⟩ := c_add108 (sh := sh) (f := f) (top := top) (by omega) (J (pw e 25 : Nat)) hM (A := fun k => (sL S 42 k).toInt) (D := fun k => (sL B 43 k).toInt) lb b1 12 0 f B (by omega) (by omega) (fun j hj => by
      rw [if_neg (by omega), ← J_of, (b3 42 (by omega)).L, (a2 42 (by omega)).L]) (fun j _ => J_of _)
    have a0' : F_X2_add_L16 sh f 40 (J top) (J (pw e 25 : Nat)) f S (J (top.natAbs : Int)) 0 = _ := a0
    have b0' : F_X2_add_L52 sh f 40 (J top) (J (pw e 25 : Nat)) f A 0 = _ := b0
    have c0' : F_X2_add_L108 sh f 40 (J top) (J (pw e 25 : Nat)) f B 0 = _ := c0
    rw [if_neg z, c_labs ht, Option.bind_some, a0', b0', c0']
    have tc : ∀ k, k < 12 → (sL C 42 k).toInt = (sL S 42 k).toInt + (if 0 ≤ top then (sL B 43 k).toInt else -(sL B 43 k).toInt) := fun k hk => by
      have := lb k hk
      have := b1 k hk
      rw [c1 k hk, J_toInt]
      by_cases q : 0 ≤ top
      · rw [if_pos q]; omega
      · rw [if_neg q]; omega
    refine ⟨C, rfl, fun k hk => ?_, ?_, fun x hx hy => ((a2 x hy).trans (b3 x hy)).trans (c2 x hx)⟩
    · have := lb k hk
      have := b1 k hk
      rw [tc k hk]
      by_cases q : 0 ≤ top
      · rw [if_pos q]; omega
      · rw [if_neg q]; omega
    · have vB : lv3 B 43 = (top.natAbs : Int) * (pw (fun i => E i - e i) 25 : Nat) := by rw [b2, va, pp]
      have e1 : lv3 C 42 = dv 1073741824 (fun k => (sL S 42 k).toInt + (if 0 ≤ top then (sL B 43 k).toInt else -(sL B 43 k).toInt)) 12 := dv_cg tc
      rw [e1, dv_add]
      have e2 : dv 1073741824 (fun k => (sL S 42 k).toInt) 12 = lv3 S 42 := rfl
      have key : dv 1073741824 (fun k => if 0 ≤ top then (sL B 43 k).toInt else -(sL B 43 k).toInt) 12 = top * (pw (fun i => E i - e i) 25 : Nat) := by
        have e3 : dv 1073741824 (fun k => (sL B 43 k).toInt) 12 = lv3 B 43 := rfl
        by_cases q : 0 ≤ top
        · rw [dv_cg (b := fun k => (sL B 43 k).toInt) (fun k _ => by rw [if_pos q]), e3, vB, nab_p q]
        · rw [dv_cg (b := fun k => -(sL B 43 k).toInt) (fun k _ => by rw [if_neg q]), dv_neg, e3, vB, ← Int.neg_mul, nab_n q]
      rw [e2, key]
end BDa
