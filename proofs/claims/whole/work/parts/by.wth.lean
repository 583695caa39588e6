section BYa
theorem lc_sum (Y : Ly) : ∀ p, lcN Y 0 p + lcN Y 1 p + lcN Y 2 p ≤ p
  | 0 => by rw [lcN, lcN, lcN]; omega
  | p + 1 => by
    have := lc_sum Y p
    rw [lcN, lcN, lcN]
    by_cases a : bL (yB Y) (yU Y p) = 0
    · rw [if_pos a, if_neg (by omega), if_neg (by omega)]; omega
    · rw [if_neg a]
      by_cases b : bL (yB Y) (yU Y p) = 1
      · rw [if_pos b, if_neg (by omega)]; omega
      · rw [if_neg b]
        by_cases c : bL (yB Y) (yU Y p) = 2
        · rw [if_pos c]; omega
        · rw [if_neg c]; omega
theorem lt_b {Y : Ly} {le : Nat → Int} (h : ∀ l, l < 3 → -99 ≤ le l ∧ le l ≤ 99) : (ltN Y le).natAbs ≤ 99 ^ yV Y := by
  have s := lc_sum Y (yV Y)
  have p : ∀ l, l < 3 → ∀ n, (le l ^ n).natAbs ≤ 99 ^ n := fun l hl n => by
    rw [Int.natAbs_pow]
    exact Nat.pow_le_pow_left (by have := h l hl; omega) n
  unfold ltN
  rw [Int.natAbs_mul, Int.natAbs_mul]
  refine Nat.le_trans (Nat.mul_le_mul (Nat.mul_le_mul (p 0 (by omega) _) (p 1 (by omega) _)) (p 2 (by omega) _)) ?_
  rw [← Nat.pow_add, ← Nat.pow_add]
  exact Nat.pow_le_pow_right (by omega) s
theorem tI_b {le : Nat → Int} {d : Dw} (ok : yOk d.2.1) (h : ∀ l, l < 3 → -99 ≤ le l ∧ le l ≤ 99) : (tIN le d).natAbs ≤ 941480149401 ∧ (wrN d.2.1 (yV d.2.1) * ltN d.2.1 le).natAbs ≤ 941480149401 := by
  have V3 := ok.2.2.2.1
  have w := wr_b ok (yV d.2.1) (Nat.le_refl _)
  have l := lt_b (Y := d.2.1) h
  have q : 99 ^ yV d.2.1 ≤ 99 ^ 3 := Nat.pow_le_pow_right (by omega) (by omega)
  have q : 99 ^ yV d.2.1 ≤ 970299 := q
  have m := Nat.mul_le_mul (Nat.le_trans w q) (Nat.le_trans l q)
  have b : (wrN d.2.1 (yV d.2.1) * ltN d.2.1 le).natAbs ≤ 941480149401 := by rw [Int.natAbs_mul]; omega
  refine ⟨?_, b⟩
  unfold tIN
  rcases sgR_pm d.2.1 d.2.2 with e | e <;> rw [e] <;> omega
def b2I (b : Bool) : Int32 := if b = true then 1 else 0
end BYa
section BYb
variable {sh : List Sh} {f : Nat} {S : St}
theorem c_adT {a : Nat} (hf : 1000 ≤ f) {t : Int} (ht : t.natAbs ≤ 941480149401) {bl ra : Nat → Nat} {lb : Bool} (hbl : ∀ k, k < 4 → bl k ≤ 200000000) (hra : ∀ k, k < 4 → ra k < pQ k) (h1 : ∀ k, k < 4 → sL S (a + 1) k = J (ra k : Nat)) (h2 : ∀ k, k < 4 → sL S (a + 2) k = J (bl k : Nat)) (h3 : sI S a 3 = b2I lb) : ∃ S', F_X7_addTerm sh f S a (J t) = some S' ∧ (∀ k, k < 4 → sL S' (a + 1) k = J ((ra k + trm (pQ k) t (bl k)) % pQ k : Nat)) ∧ sI S' a 3 = b2I (lb || (List.range 4).any (fun k => bl k == 0)) ∧ (∀ x, x ≠ a → x ≠ a + 1 → Sm S S' x) ∧ ∀ j, j ≠ 3 → sI S' a j = sI S a j := by
  have lp : ∀ (d k nf : Nat) (T : St), k + d = 4 → d < nf → (∀ x, x ≠ a → x ≠ a + 1 → Sm S T x) → (∀ j, j ≠ 3 → sI T a j = sI S a j) → (∀ j, j < 4 → sL T (a + 1) j = J ((if j < k then (ra j + trm (pQ j) t (bl j)) % pQ j else ra j : Nat) : Int)) → sI T a 3 = b2I (lb || (List.range k).any (fun k => bl k == 0)) → ∃ S', F_X7_addTerm_L2 sh f a (J t) nf T (I k) = some S' ∧ (∀ k, k < 4 → sL S' (a + 1) k = J ((ra k + trm (pQ k) t (bl k)) % pQ k : Nat)) ∧ sI S' a 3 = b2I (lb || (List.range 4).any (fun k => bl k == 0)) ∧ (∀ x, x ≠ a → x ≠ a + 1 → Sm S S' x) ∧ ∀ j, j ≠ 3 → sI S' a j = sI S a j := by
    intro d
    induction d with
    | zero =>
      intro k nf T hk hn F Fi g1 g3
      obtain ⟨nf, rfl⟩ : ∃ e, nf = e + 1 := ⟨nf - 1, by omega⟩
      have : k = 4 := by omega
      subst this
      rw [F_X7_addTerm_L2, if_pos (by decide)]
      exact ⟨T, rfl, fun j hj => by rw [g1 j hj, if_pos hj], g3, F, Fi⟩
    | succ d ih =>
      intro k nf T hk hn F Fi g1 g3
      obtain ⟨nf, rfl⟩ : ∃ e, nf = e + 1 := ⟨nf - 1, by omega⟩
      have nb : ¬ (I (k : Int) < 0 ∨ 4 ≤ k) := I_bnd (show k < 4 by omega) (by omega)
      have pb := pQ_b k
      have q : v_tf v_T2 k = I (pQ k : Int) := pQ_tf ⟨k, by omega⟩
      have pz : ¬ J (pQ k : Int) = 0 := by rw [show (0 : Int64) = J 0 from rfl, J_eq (by omega) (by omega)]; omega
      have bb := hbl k (by omega)
      have rb := hra k (by omega)
      have go : ∀ T1 : St, (∀ x, x ≠ a → Sm T T1 x) → (∀ j, j ≠ 3 → sI T1 a j = sI T a j) → sL T1 (a + 1) = sL T (a + 1) → sI T1 a 3 = b2I (lb || (List.range (k + 1)).any (fun k => bl k == 0)) → ∃ S', F_X7_addTerm_L31 sh f a (J t) (F_X7_addTerm_L2 sh f a (J t) nf) T1 (I k) (J (pQ k : Int)) = some S' ∧ (∀ k, k < 4 → sL S' (a + 1) k = J ((ra k + trm (pQ k) t (bl k)) % pQ k : Nat)) ∧ sI S' a 3 = b2I (lb || (List.range 4).any (fun k => bl k == 0)) ∧ (∀ x, x ≠ a → x ≠ a + 1 → Sm S S' x) ∧ ∀ j, j ≠ 3 → sI S' a j = sI S a j := by
        intro T1 j1 j2 j3 j4
        have fm := c_fmod (sh := sh) (f := f) (S := T1) (a := t) (p := (pQ k : Int)) (by omega) (by omega)
        have r0 := Int.emod_nonneg t (b := (pQ k : Int)) (by omega)
        have r1 := Int.emod_lt_of_pos t (b := (pQ k : Int)) (by omega)
        obtain ⟨rn, hrn⟩ : ∃ n : Nat, t % (pQ k : Int) = n := ⟨(t % (pQ k : Int)).toNat, by omega⟩
        have b2 : sL T1 (a + 2) k = J (bl k : Nat) := ((j1 (a + 2) (by omega)).L k).trans (((F (a + 2) (by omega) (by omega)).L k).trans (h2 k (by omega)))
        have r2 : sL T1 (a + 1) k = J (ra k : Nat) := by rw [j3, g1 k (by omega), if_neg (by omega)]
        have iv := c_inv (sh := sh) (S := T1) hf (p := pQ k) (x := bl k) (by omega) (by omega)
        have il : bl k ^ (pQ k - 2) % pQ k < pQ k := Nat.mod_lt _ (by omega)
        have te : trm (pQ k) t (bl k) = rn * (bl k ^ (pQ k - 2) % pQ k) % pQ k := by unfold trm; rw [hrn]; rfl
        generalize hz : bl k ^ (pQ k - 2) % pQ k = z at *
        have mb : rn * z ≤ 1000039 * 1000039 := Nat.mul_le_mul (by omega) (by omega)
        have tl : rn * z % pQ k < pQ k := Nat.mod_lt _ (by omega)
        unfold F_X7_addTerm_L31
        rw [fm, Option.bind_some, hrn, I_clN (show k < _ by omega), if_neg nb, b2, iv, Option.bind_some, if_neg pz]
        simp only [bnd, if_neg nb, if_neg pz]
        rw [J_mul, ← Int.natCast_mul, J_rem (by omega) (by omega), r2, show J (((rn * z : Nat) : Int) % (pQ k : Int)) = J ((rn * z % pQ k : Nat) : Int) from rfl, J_add, ← Int.natCast_add, J_rem (by omega) (by omega), I_suc]
        refine ih (k + 1) nf _ (by omega) (by omega) (fun x x0 x1 => ((F x x0 x1).trans (j1 x x0)).uL x1) (fun j hj => by rw [sI_uL, j2 j hj]; exact Fi j hj) (fun j hj => ?_) (by rw [sI_uL]; exact j4)
        rw [sL_uL, if_pos rfl, up1_if]
        by_cases y : j = k
        · rw [if_pos y, if_pos (by omega), y, te]
          rfl
        · rw [if_neg y, j3, g1 j hj]
          by_cases y' : j < k
          · rw [if_pos y', if_pos (by omega)]
          · rw [if_neg y', if_neg (by omega)]
      have b2 : sL T (a + 2) k = J (bl k : Nat) := ((F (a + 2) (by omega) (by omega)).L k).trans (h2 k (by omega))
      have l0 := (lgz (a := (bl k : Int)) (c := 0) (by omega) (by omega)).2.2.2
      have ra' : (List.range (k + 1)).any (fun k => bl k == 0) = ((List.range k).any (fun k => bl k == 0) || bl k == 0) := by
        rw [List.range_succ, List.any_append, List.any_cons, List.any_nil, Bool.or_false]
      rw [F_X7_addTerm_L2, if_neg (by rw [show (4 : Int32) = I ((4 : Nat) : Int) from rfl, I_leN (by omega) (by omega)]; omega), I_clN (show k < _ by omega), if_neg nb, q, J_I (by omega)]
      simp only [bnd, if_neg nb]
      rw [b2, show (0 : Int64) = J 0 from rfl]
      simp only [l0]
      by_cases z : (bl k : Int) = 0
      · rw [if_pos z]
        refine go _ (fun x hx => Sm.rfl.uI hx) (fun j hj => sI_ne _ _ _ hj) rfl ?_
        rw [sI_self, ra', show (bl k == 0) = true by rw [beq_iff_eq]; omega, Bool.or_true, Bool.or_true]
        rfl
      · rw [if_neg z]
        refine go T (fun _ _ => Sm.rfl) (fun _ _ => rfl) rfl ?_
        rw [g3, ra', show (bl k == 0) = false by rw [beq_eq_false_iff_ne]; omega, Bool.or_false]
  unfold F_X7_addTerm
  exact lp 4 0 f S (by omega) (by omega) (fun _ _ _ => Sm.rfl) (fun _ _ => rfl) (fun j hj => by rw [if_neg (by omega)]; exact h1 j hj) (by rw [h3]; simp)
theorem c_clr {a : Nat} (hf : 1000 ≤ f) : ∃ S', F_X7_clear sh f S a = some S' ∧ (∀ k, k < 4 → sL S' (a + 1) k = J (0 : Nat)) ∧ sI S' a 2 = -1 ∧ sI S' a 3 = b2I false ∧ (∀ x, x ≠ a → x ≠ a + 1 → Sm S S' x) ∧ ∀ j, j ≠ 2 → j ≠ 3 → sI S' a j = sI S a j := by
  have lp : ∀ (d k nf : Nat) (T : St), k + d = 4 → d < nf → (∀ x, x ≠ a + 1 → Sm S T x) → (∀ j, j < k → sL T (a + 1) j = J (0 : Nat)) → ∃ S', F_X7_clear_L2 sh f a nf T (I k) = some S' ∧ (∀ k, k < 4 → sL S' (a + 1) k = J (0 : Nat)) ∧ sI S' a 2 = -1 ∧ sI S' a 3 = b2I false ∧ (∀ x, x ≠ a → x ≠ a + 1 → Sm S S' x) ∧ ∀ j, j ≠ 2 → j ≠ 3 → sI S' a j = sI S a j := by
    intro d
    induction d with
    | zero =>
      intro k nf T hk hn F g1
      obtain ⟨nf, rfl⟩ : ∃ e, nf = e + 1 := ⟨nf - 1, by omega⟩
      have : k = 4 := by omega
      subst this
      rw [F_X7_clear_L2, if_pos (by decide)]
      simp only [bnd]
      refine ⟨_, rfl, fun j hj => g1 j hj, ?_, sI_self _ _ _ _, fun x x0 x1 => ((F x x1).uI x0).uI x0, fun j j2 j3 => ?_⟩
      · rw [sI_ne _ _ _ (by omega)]; exact sI_self _ _ _ _
      · rw [sI_ne _ _ _ j3, sI_ne _ _ _ j2]; exact (F a (by omega)).I j
    | succ d ih =>
      intro k nf T hk hn F g1
      obtain ⟨nf, rfl⟩ : ∃ e, nf = e + 1 := ⟨nf - 1, by omega⟩
      rw [F_X7_clear_L2, if_neg (by rw [show (4 : Int32) = I ((4 : Nat) : Int) from rfl, I_leN (by omega) (by omega)]; omega), I_clN (show k < _ by omega), if_neg (I_bnd (show k < 4 by omega) (by omega))]
      simp only [bnd, I_suc]
      refine ih (k + 1) nf _ (by omega) (by omega) (fun x hx => (F x hx).uL hx) (fun j hj => ?_)
      rw [sL_uL, if_pos rfl, up1_if]
      by_cases y : j = k
      · rw [if_pos y]; rfl
      · rw [if_neg y]; exact g1 j (by omega)
  unfold F_X7_clear
  exact lp 4 0 f S (by omega) (by omega) (fun _ _ => Sm.rfl) (fun j hj => by omega)
theorem wO_b (sd kd : Nat) (d : Dw) (h : (dCl d).length ≤ 2) : -1 ≤ wOf sd kd d ∧ wOf sd kd d < 3 := by
  unfold wOf
  by_cases c : sd = 0
  · rw [if_pos c]; omega
  · rw [if_neg c]
    have := fcR_b (ctP d.2.1 d.2.2 sd kd) (dCl d) (dCl d).length 0
    omega
theorem e_loops {g V i : Nat} {d : Dw} (en : enW S g V i d) : F_X3_loops sh f S g (I i) = some (I ((yL d.2.1 / 2 : Nat) - (yN d.2.1 : Int) - V + 1)) := by
  obtain ⟨e1, e2, e3, e4, e5, e6, e7, e8, e9, e10⟩ := en
  have nbi : ¬ (I (i : Int) < 0 ∨ 200 ≤ i) := I_bnd e1 (by omega)
  unfold F_X3_loops
  rw [I_clN (by omega), if_neg nbi, e6.2.2.2.1, I_clN (by omega), if_neg (I_bnd e2 (by omega)), e7, e10, I_sub, show (1 : Int32) = I 1 from rfl, I_add]
theorem c_adW {a g b e V n : Nat} {B : Bk} {nu le : Nat → Int} {DL : List Dw} (hf : 1000 ≤ f) (l200 : DL.length ≤ 200) (hsz : sI S g 17 = I DL.length) (en : ∀ i d, DL[i]? = some d → enW S g V i d ∧ yB d.2.1 = B ∧ yN d.2.1 = n) (kb : bkC S b B) (s2 : sI S e 2 = I n) (hn : nuB nu n) (hk : ∀ i, i < n → sA S (e + 2) i = I (nu i)) (hle : ∀ l, l < 3 → -99 ≤ le l ∧ le l ≤ 99 ∧ sA S 59 l = I (le l)) (dj : ∀ x, x = a ∨ x = a + 1 ∨ x = a + 2 → (x < g ∨ g + 16 < x) ∧ (x < b ∨ b + 9 < x) ∧ x ≠ e ∧ x ≠ e + 2 ∧ x ≠ 59) {sd kd : Nat} (hs : sd < 64) (hkd : kd < 8) {ra : Nat → Nat} {P : Int32} {lb : Bool} (hra : ∀ k, k < 4 → ra k < pQ k) (h1 : ∀ k, k < 4 → sL S (a + 1) k = J (ra k : Nat)) (h2 : sI S a 2 = P) (h3 : sI S a 3 = b2I lb) : ∃ S', F_X7_addWorths sh f S a g b e 59 3 (I sd) (I kd) = some S' ∧ (∀ k, k < 4 → sL S' (a + 1) k = J (rsL nu le V sd kd k (ra k) DL : Nat)) ∧ sI S' a 2 = plL nu V sd kd P DL ∧ sI S' a 3 = b2I (loL nu V sd kd lb DL) ∧ (∀ x, x ≠ a → x ≠ a + 1 → x ≠ a + 2 → Sm S S' x) ∧ ∀ j, j ≠ 2 → j ≠ 3 → sI S' a j = sI S a j := by
  have lp : ∀ (r i nf : Nat) (T : St) (ra : Nat → Nat) (P : Int32) (lb : Bool), i + r = DL.length → r < nf → (∀ x, x ≠ a → x ≠ a + 1 → x ≠ a + 2 → Sm S T x) → (∀ j, j ≠ 2 → j ≠ 3 → sI T a j = sI S a j) → (∀ k, k < 4 → ra k < pQ k) → (∀ k, k < 4 → sL T (a + 1) k = J (ra k : Nat)) → sI T a 2 = P → sI T a 3 = b2I lb → ∃ S', F_X7_addWorths_L3 sh f a g b e 59 3 (I sd) (I kd) nf T (I i) = some S' ∧ (∀ k, k < 4 → sL S' (a + 1) k = J (rsL nu le V sd kd k (ra k) (DL.drop i) : Nat)) ∧ sI S' a 2 = plL nu V sd kd P (DL.drop i) ∧ sI S' a 3 = b2I (loL nu V sd kd lb (DL.drop i)) ∧ (∀ x, x ≠ a → x ≠ a + 1 → x ≠ a + 2 → Sm S S' x) ∧ ∀ j, j ≠ 2 → j ≠ 3 → sI S' a j = sI S a j := by
    intro r
    induction r with
    | zero =>
      intro i nf T ra P lb hi hn' F Fi q0 q1 q2 q3
      obtain ⟨nf, rfl⟩ : ∃ e, nf = e + 1 := ⟨nf - 1, by omega⟩
      have dg := dj a (Or.inl rfl)
      have d1 := dj (a + 1) (Or.inr (Or.inl rfl))
      have d2 := dj (a + 2) (Or.inr (Or.inr rfl))
      have z17 : sI T g 17 = I (DL.length : Nat) := ((F g (by omega) (by omega) (by omega)).I 17).trans hsz
      rw [F_X7_addWorths_L3, z17, if_pos (by rw [I_leN (by omega) (by omega)]; omega), List.drop_eq_nil_of_le (by omega)]
      exact ⟨T, rfl, q1, q2, q3, F, Fi⟩
    | succ r ih =>
      intro i nf T ra P lb hi hn' F Fi q0 q1 q2 q3
      obtain ⟨nf, rfl⟩ : ∃ e, nf = e + 1 := ⟨nf - 1, by omega⟩
      have dg := dj a (Or.inl rfl)
      have d1 := dj (a + 1) (Or.inr (Or.inl rfl))
      have d2 := dj (a + 2) (Or.inr (Or.inr rfl))
      have z17 : sI T g 17 = I (DL.length : Nat) := ((F g (by omega) (by omega) (by omega)).I 17).trans hsz
      have il : i < DL.length := by omega
      obtain ⟨d, hd⟩ : ∃ d, DL[i]? = some d := ⟨_, List.getElem?_eq_getElem il⟩
      have dr : DL.drop i = d :: DL.drop (i + 1) := by
        rw [List.drop_eq_getElem_cons il]
        rw [List.getElem?_eq_getElem il] at hd
        rw [Option.some.inj hd]
      obtain ⟨e0, eb, ey⟩ := en i d hd
      have eT : enW T g V i d := enW_sm e0 (fun x xa xb => F x (by omega) (by omega) (by omega))
      have c2 : (dCl d).length ≤ 2 := e0.2.2.2.2.2.1.2.2.2.2.2.1
      have wb := wO_b sd kd d c2
      have ok := e0.2.2.1
      have lo := e_loops (sh := sh) (f := f) eT
      have V3 : V ≤ 3 := by have := ok.2.2.2.1; have := e0.2.2.2.2.1; omega
      have L12 : yL d.2.1 ≤ 12 := ok.2.2.2.2.2.2.1
      have n6 := ok.2.1.2
      have lz : (I ((yL d.2.1 / 2 : Nat) - (yN d.2.1 : Int) - V + 1) = 0) = (trB V d = true) := by
        rw [show (0 : Int32) = I 0 from rfl, I_eq (by omega) (by omega)]
        unfold trB
        rw [decide_eq_true_iff]
        exact propext (by omega)
      have sz : (I (sd : Int) = 0) = (sd = 0) := by
        rw [show (0 : Int32) = I ((0 : Nat) : Int) from rfl, I_eqN (by omega) (by omega)]
      have wz' : (I (wOf sd kd d) = (-1 : Int32)) = (wOf sd kd d = -1) := by
        rw [show (-1 : Int32) = I (-1) from rfl, I_eq (by omega) (by omega)]
      have skp : usd V sd kd d = false → ∃ S', F_X7_addWorths_L3 sh f a g b e 59 3 (I sd) (I kd) nf T (I i + 1) = some S' ∧ (∀ k, k < 4 → sL S' (a + 1) k = J (rsL nu le V sd kd k (ra k) (DL.drop i) : Nat)) ∧ sI S' a 2 = plL nu V sd kd P (DL.drop i) ∧ sI S' a 3 = b2I (loL nu V sd kd lb (DL.drop i)) ∧ (∀ x, x ≠ a → x ≠ a + 1 → x ≠ a + 2 → Sm S S' x) ∧ ∀ j, j ≠ 2 → j ≠ 3 → sI S' a j = sI S a j := fun u => by
        have nu' : ¬ usd V sd kd d = true := by rw [u]; decide
        rw [dr, I_suc]
        simp only [rsL, plL, loL, if_neg nu']
        exact ih (i + 1) nf T ra P lb (by omega) (by omega) F Fi q0 q1 q2 q3
      have tk : usd V sd kd d = true → ∃ S', F_X7_addWorths_L53 sh f a g b e 59 3 (I sd) (I kd) (F_X7_addWorths_L3 sh f a g b e 59 3 (I sd) (I kd) nf) T (I i) (I (wOf sd kd d)) = some S' ∧ (∀ k, k < 4 → sL S' (a + 1) k = J (rsL nu le V sd kd k (ra k) (DL.drop i) : Nat)) ∧ sI S' a 2 = plL nu V sd kd P (DL.drop i) ∧ sI S' a 3 = b2I (loL nu V sd kd lb (DL.drop i)) ∧ (∀ x, x ≠ a → x ≠ a + 1 → x ≠ a + 2 → Sm S S' x) ∧ ∀ j, j ≠ 2 → j ≠ 3 → sI S' a j = sI S a j := fun u => by
        have kbT : bkC T b B := bkC_sm kb (fun x xa xb => F x (by omega) (by omega) (by omega))
        obtain ⟨U, u0, u1, u2, u3, u4⟩ := c_dbj (sh := sh) (f := f) (S := T) (a := a) (g := g) (b := b) (e := e) (nu := nu) hf eT kbT eb ey (((F e (by omega) (by omega) (by omega)).I 2).trans s2) hn (fun i hi => ((F (e + 2) (by omega) (by omega) (by omega)).A i).trans (hk i hi)) (fun x hx => by have := dj x hx; omega) wb
        have eU : enW U g V i d := enW_sm eT (fun x xa xb => u3 x (by omega) (by omega))
        have ab := c_above (sh := sh) hf eU (le := le) (fun l hl => ⟨(hle l hl).1, (hle l hl).2.1, ((u3 59 (by omega) (by omega)).A l).trans (((F 59 (by omega) (by omega) (by omega)).A l).trans (hle l hl).2.2)⟩)
        have tb := tI_b (le := le) ok (fun l hl => ⟨(hle l hl).1, (hle l hl).2.1⟩)
        have e3' : sA U (g + 3) i = I (sgR d.2.1 d.2.2) := eU.2.2.2.2.2.1.2.2.1
        have sp := sgR_pm d.2.1 d.2.2
        have bb : ∀ k, k < 4 → blN nu sd kd k d ≤ 200000000 := fun k _ => by
          have pb := pQ_b k
          have w1 := ((yHg_mem ok).mp e0.2.2.2.1).1
          have oa := obal_b ok w1
          have na := yNa_b ok
          rcases bpN_b (p := pQ k) (by omega) ((byW sd kd d).map (byI nu d.2.1 d.2.2)) (alN d.2.1 d.2.2) with h | h
          · have : blN nu sd kd k d ≤ alN d.2.1 d.2.2 := h
            omega
          · have : blN nu sd kd k d < pQ k := h
            omega
        obtain ⟨W, w0, w1, w2, w3, w4⟩ := c_adT (sh := sh) (f := f) (S := U) (a := a) hf (t := tIN le d) tb.1 (bl := fun k => blN nu sd kd k d) (ra := ra) (lb := lb) bb q0 (fun k hk => by rw [(u3 (a + 1) (by omega) (by omega)).L]; exact q1 k hk) (fun k hk => u1 k hk) (by rw [u4 3 (by omega)]; exact q3)
        unfold F_X7_addWorths_L53
        rw [u0, Option.bind_some, I_clN (show i < _ by omega), if_neg (I_bnd e0.1 (by omega)), ab, Option.bind_some, e3', J_I (by omega), J_mul, show sgR d.2.1 d.2.2 * (wrN d.2.1 (yV d.2.1) * ltN d.2.1 le) = tIN le d from rfl, w0, Option.bind_some]
        simp only [bnd, I_suc]
        rw [dr]
        simp only [rsL, plL, loL, if_pos u]
        refine ih (i + 1) nf W _ _ _ (by omega) (by omega) (fun x x0 x1 x2 => ((F x x0 x1 x2).trans (u3 x x0 x2)).trans (w3 x x0 x1)) (fun j j2 j3 => by rw [w4 j j3, u4 j j2]; exact Fi j j2 j3) (fun k hk => Nat.mod_lt _ (by have := pQ_b k; omega)) w1 ?_ w2
        rw [w4 2 (by omega), u2, q2]
        rfl
      rw [F_X7_addWorths_L3, z17, if_neg (by rw [I_leN (by omega) (by omega)]; omega)]
      simp only [sz]
      by_cases s0 : sd = 0
      · have w1 : wOf sd kd d = -1 := by unfold wOf; rw [if_pos s0]
        rw [if_pos s0]
        unfold F_X7_addWorths_L31
        rw [lo, Option.bind_some]
        simp only [lz, sz, bnd]
        by_cases t : trB V d = true
        · rw [if_pos t, if_pos s0, show (-1 : Int32) = I (wOf sd kd d) by rw [w1]; rfl]
          exact tk (by unfold usd; rw [t, s0]; rfl)
        · rw [if_neg t]
          exact skp (by unfold usd; rw [Bool.eq_false_iff.mpr t]; rfl)
      · have fc := c_fcut (sh := sh) hf eT hs hkd
        have fe : fcR (ctP d.2.1 d.2.2 sd kd) (dCl d) (dCl d).length 0 = wOf sd kd d := by unfold wOf; rw [if_neg s0]
        rw [fe] at fc
        rw [if_neg s0, fc, Option.bind_some]
        unfold F_X7_addWorths_L31
        rw [lo, Option.bind_some]
        simp only [lz, sz, bnd, wz']
        have s0' : (sd == 0) = false := by rw [beq_eq_false_iff_ne]; exact s0
        by_cases t : trB V d = true
        · rw [if_pos t, if_neg s0]
          by_cases w : wOf sd kd d = -1
          · rw [if_pos w]
            exact skp (by unfold usd; rw [t, s0', w]; rfl)
          · rw [if_neg w]
            exact tk (by unfold usd; rw [t, s0', Bool.false_or, Bool.true_and, decide_eq_true_iff]; exact w)
        · rw [if_neg t]
          exact skp (by unfold usd; rw [Bool.eq_false_iff.mpr t]; rfl)
  unfold F_X7_addWorths
  have := lp DL.length 0 f S ra P lb (by omega) (by omega) (fun _ _ _ _ => Sm.rfl) (fun _ _ _ => rfl) hra h1 h2 h3
  rw [List.drop_zero] at this
  exact this
end BYb
