/-! THE GROUPS of a list as numbers; powers of letters. -/
section BKa
def lcN (Y : Ly) (l : Nat) : Nat → Nat
  | 0 => 0
  | p + 1 => lcN Y l p + if bL (yB Y) (yU Y p) = l then 1 else 0
theorem lcN_le (Y : Ly) (l : Nat) : ∀ p, lcN Y l p ≤ p
  | 0 => by rw [lcN]; omega
  | p + 1 => by
    have := lcN_le Y l p
    rw [lcN]
    by_cases c : bL (yB Y) (yU Y p) = l
    · rw [if_pos c]; omega
    · rw [if_neg c]; omega
theorem pw_lc {Y : Ly} (ok : yOk Y) : ∀ p, p ≤ yV Y → pwN Y p = 16 * lcN Y 0 p + 4 * lcN Y 1 p + lcN Y 2 p
  | 0, _ => rfl
  | p + 1, h => by
    have ih := pw_lc ok p (by omega)
    have b := (ok.1.2.2.2 (yU Y p) (ok.2.2.2.2.1 p (by omega))).2.2.2.2.1
    rw [pwN, ih, lcN, lcN, lcN]
    rcases (by omega : bL (yB Y) (yU Y p) = 0 ∨ bL (yB Y) (yU Y p) = 1 ∨ bL (yB Y) (yU Y p) = 2) with q | q | q
    · rw [q, if_pos rfl, if_neg (by omega), if_neg (by omega)]; omega
    · rw [q, if_neg (by omega), if_pos rfl, if_neg (by omega)]; omega
    · rw [q, if_neg (by omega), if_neg (by omega), if_pos rfl]; omega
/-- whether a layout has these powers -/
def pqY (Y : Ly) (a b c : Nat) : Bool := decide (lcN Y 0 (yV Y) = a ∧ lcN Y 1 (yV Y) = b ∧ lcN Y 2 (yV Y) = c)
theorem pq_code {Y : Ly} (ok : yOk Y) {a b c : Nat} (h : a ≤ 3 ∧ b ≤ 3 ∧ c ≤ 3) : (I (pwN Y (yV Y) : Nat) = I ((16 * a + 4 * b + c : Nat) : Int)) = (pqY Y a b c = true) := by
  have v := ok.2.2.2.1
  have l0 := lcN_le Y 0 (yV Y)
  have l1 := lcN_le Y 1 (yV Y)
  have l2 := lcN_le Y 2 (yV Y)
  rw [pw_lc ok (yV Y) (Nat.le_refl _), I_eqN (by omega) (by omega)]
  unfold pqY
  rw [decide_eq_true_iff]
  exact propext ⟨fun q => by omega, fun q => by omega⟩
variable {sh : List Sh} {f q i : Nat} {S : St} {Y : Ly}
theorem r_hasP (hf : 1000 ≤ f) (ok : yOk Y) (h4 : sR S 94 5 = some q) (h5 : ckX9 sh q = true) (qo : qOk q) (h7 : bkR S q (yB Y)) (hi : i < 200) (e1 : ∀ p, p < yV Y → sA S 114 (3 * i + p) = I (yU Y p)) (s1 : sI S 111 1 = I (yV Y)) {a b c : Nat} (habc : a ≤ 3 ∧ b ≤ 3 ∧ c ≤ 3) : ∃ S', F_X12_hasPowers sh f S 94 111 (I i) (I a) (I b) (I c) = some (if pqY Y a b c = true then 1 else 0, S') ∧ ∀ x, x ≠ 151 → Sm S S' x := by
  have v3 := ok.2.2.2.1
  have l2 : ∀ (d p nf : Nat) (T : St), p + d = yV Y → d < nf → (∀ x, x ≠ 151 → Sm S T x) → (∀ l, l < 3 → sA T 151 l = I (lcN Y l p : Nat)) → ∃ S', F_X12_hasPowers_L26 sh f 94 111 (I i) (I a) (I b) (I c) nf T (I p) = some (if pqY Y a b c = true then 1 else 0, S') ∧ ∀ x, x ≠ 151 → Sm S S' x := by
    intro d
    induction d with
    | zero =>
      intro p nf T hp hn F g
      obtain ⟨nf, rfl⟩ : ∃ e, nf = e + 1 := ⟨nf - 1, by omega⟩
      have : p = yV Y := by omega
      subst this
      have s1' : sI T 111 1 = I (yV Y) := ((F 111 (by omega)).I 1).trans s1
      have c0 : sA T (94 + 57) (0 : Int32).toNatClampNeg = I (lcN Y 0 (yV Y) : Nat) := g 0 (by omega)
      have c1 : sA T (94 + 57) (1 : Int32).toNatClampNeg = I (lcN Y 1 (yV Y) : Nat) := g 1 (by omega)
      have c2 : sA T (94 + 57) (2 : Int32).toNatClampNeg = I (lcN Y 2 (yV Y) : Nat) := g 2 (by omega)
      have b0 := lcN_le Y 0 (yV Y)
      have b1 := lcN_le Y 1 (yV Y)
      have b2 := lcN_le Y 2 (yV Y)
      rw [F_X12_hasPowers_L26, s1', if_pos (by rw [I_leN (by omega) (by omega)]; omega), if_neg (show ¬ ((0 : Int32) < 0 ∨ 3 ≤ (0 : Int32).toNatClampNeg) by decide), if_neg (show ¬ ((1 : Int32) < 0 ∨ 3 ≤ (1 : Int32).toNatClampNeg) by decide), if_neg (show ¬ ((2 : Int32) < 0 ∨ 3 ≤ (2 : Int32).toNatClampNeg) by decide), c0, c1, c2, ite_eqN (by omega) (by omega), ite_eqN (by omega) (by omega), ite_eqN (by omega) (by omega)]
      refine ⟨T, ?_, F⟩
      unfold pqY
      by_cases d0 : lcN Y 0 (yV Y) = a
      · rw [if_pos d0]
        by_cases d1 : lcN Y 1 (yV Y) = b
        · rw [if_pos d1]
          by_cases d2 : lcN Y 2 (yV Y) = c
          · rw [if_pos d2, if_pos (decide_eq_true ⟨d0, d1, d2⟩)]
          · rw [if_neg d2, if_neg (by rw [decide_eq_true_iff]; exact fun z => d2 z.2.2)]
        · rw [if_neg d1, if_neg (by rw [decide_eq_true_iff]; exact fun z => d1 z.2.1)]
      · rw [if_neg d0, if_neg (by rw [decide_eq_true_iff]; exact fun z => d0 z.1)]
    | succ d ih =>
      intro p nf T hp hn F g
      obtain ⟨nf, rfl⟩ : ∃ e, nf = e + 1 := ⟨nf - 1, by omega⟩
      have s1' : sI T 111 1 = I (yV Y) := ((F 111 (by omega)).I 1).trans s1
      have m3 : (3 : Int32) * I (i : Int) + I (p : Int) = I ((3 * i + p : Nat) : Int) := by rw [show (3 : Int32) = I 3 from rfl, I_mul, I_add]; rfl
      have e : sA T (111 + 3) (3 * i + p) = I (yU Y p) := ((F 114 (by omega)).A _).trans (e1 p (by omega))
      have ub := ok.2.2.2.2.1 p (by omega)
      have r4 := ok.1.2.1
      have kT : bkR T q (yB Y) := bkR_sm h7 (fun x _ _ => F x (by unfold qOk at qo; omega))
      have bl := (kT.2.2.2 (yU Y p) ub).2.2.1
      have b3 := (ok.1.2.2.2 (yU Y p) ub).2.2.2.2.1
      have nbl : ¬ (I (bL (yB Y) (yU Y p) : Int) < 0 ∨ 3 ≤ bL (yB Y) (yU Y p)) := I_bnd b3 (by omega)
      have gl : sA T (94 + 57) (bL (yB Y) (yU Y p)) = I (lcN Y (bL (yB Y) (yU Y p)) p : Nat) := g _ b3
      rw [F_X12_hasPowers_L26, s1', if_neg (by rw [I_leN (by omega) (by omega)]; omega), (F 94 (by omega)).R, h4, Option.bind_some, if_pos h5, m3, I_clN (show 3 * i + p < _ by omega), if_neg (I_bnd (show 3 * i + p < 600 by omega) (by omega)), e, I_clN (show yU Y p < _ by omega), if_neg (I_bnd (show yU Y p < 4 by omega) (by omega)), bl, I_clN (show bL (yB Y) (yU Y p) < _ by omega), if_neg nbl, if_neg nbl, gl, I_suc]
      simp only [bnd, I_suc]
      refine ih (p + 1) nf _ (by omega) (by omega) (fun x hx => (F x hx).uA hx) (fun l hl => ?_)
      rw [sA_uA, if_pos rfl, up1_if, lcN]
      by_cases z : l = bL (yB Y) (yU Y p)
      · rw [if_pos z, if_pos z.symm, z]
      · rw [if_neg z, if_neg (fun y => z y.symm), Nat.add_zero]
        exact g l hl
  have l1 : ∀ (d k nf : Nat) (T : St), k + d = 3 → d < nf → (∀ x, x ≠ 151 → Sm S T x) → (∀ l, l < k → sA T 151 l = 0) → ∃ S', F_X12_hasPowers_L3 sh f 94 111 (I i) (I a) (I b) (I c) nf T (I k) = some (if pqY Y a b c = true then 1 else 0, S') ∧ ∀ x, x ≠ 151 → Sm S S' x := by
    intro d
    induction d with
    | zero =>
      intro k nf T hk hn F g
      obtain ⟨nf, rfl⟩ : ∃ e, nf = e + 1 := ⟨nf - 1, by omega⟩
      have : k = 3 := by omega
      subst this
      rw [F_X12_hasPowers_L3, if_pos (by decide)]
      exact l2 (yV Y) 0 f T (by omega) (by omega) F (fun l hl => by rw [g l hl]; rfl)
    | succ d ih =>
      intro k nf T hk hn F g
      obtain ⟨nf, rfl⟩ : ∃ e, nf = e + 1 := ⟨nf - 1, by omega⟩
      rw [F_X12_hasPowers_L3, if_neg (by rw [show (3 : Int32) = I ((3 : Nat) : Int) from rfl, I_leN (by omega) (by omega)]; omega), I_clN (show k < _ by omega), if_neg (I_bnd (show k < 3 by omega) (by omega))]
      simp only [bnd, I_suc]
      refine ih (k + 1) nf _ (by omega) (by omega) (fun x hx => (F x hx).uA hx) (fun l hl => ?_)
      rw [sA_uA, if_pos rfl, up1_if]
      by_cases z : l = k
      · rw [if_pos z]
      · rw [if_neg z]; exact g l (by omega)
  exact l1 3 0 f S (by omega) (by omega) (fun _ _ => Sm.rfl) (fun l hl => by omega)
end BKa
section BKb
variable {S : St} {g V : Nat} {X : NS}
noncomputable abbrev xG (X : NS) (V : Nat) : List Nat := gls (xB X) (xN X) (xE X) V (4 ^ V)
noncomputable abbrev xY (X : NS) (V j : Nat) : Ly := yC (xB X) (xN X) (xE X) V ((xG X V).getD j 0)
theorem xY_ok (v : liV S g X V) {j : Nat} (hj : j < (xG X V).length) : (xG X V)[j]? = some ((xG X V).getD j 0) ∧ yOk (xY X V j) ∧ (xG X V).getD j 0 < 64 := by
  have e : (xG X V)[j]? = some ((xG X V).getD j 0) := by
    rw [List.getD_eq_getElem?_getD, List.getElem?_eq_getElem hj]
    rfl
  have m := List.mem_of_getElem? e
  have q := List.mem_filter.mp m
  have c64 : 4 ^ V ≤ 4 ^ 3 := Nat.pow_le_pow_right (by omega) v.1.2
  have := List.mem_range.mp q.1
  exact ⟨e, (okC_iff _ _ _ _).mp q.2, by omega⟩
theorem grp (v : liV S g X V) (n2 : 2 ≤ xN X) : ∃ (H : Nat → Nat) (e : Nat → Nat → Nat), ∀ j, j < (xG X V).length → sA S (g + 12) j = I (H j) ∧ 1 ≤ H j ∧ H j ≤ 99 ^ 4 ∧ pw (e j) 25 = yNa (xY X V j) * H j ∧ ∀ i, i < 25 → e j i ≤ mxE (xB X) i := by
  have key : ∀ j, ∃ P : Nat × (Nat → Nat), j < (xG X V).length → sA S (g + 12) j = I (P.1 : Int) ∧ 1 ≤ P.1 ∧ P.1 ≤ 99 ^ 4 ∧ pw P.2 25 = yNa (xY X V j) * P.1 ∧ ∀ i, i < 25 → P.2 i ≤ mxE (xB X) i := by
    intro j
    by_cases hj : j < (xG X V).length
    · obtain ⟨e1, ok, _⟩ := xY_ok v hj
      rcases (v.2.2.2.2.1.2.2 j _ e1).2 with h | ⟨ρ, h1, h2⟩
      · obtain ⟨e, a1, a2⟩ := gx_1 ok
        exact ⟨(1, e), fun _ => ⟨h, Nat.le_refl 1, (by omega : 1 ≤ 99 ^ 4), a1, a2⟩⟩
      · obtain ⟨e, a1, a2⟩ := gx_hv ok n2 h1
        have b := hv_le ok h1.1 h1.2 n2
        exact ⟨(hvN (xY X V j) ρ (yL (xY X V j)), e), fun _ => ⟨h2, b.1, b.2, a1, a2⟩⟩
    · exact ⟨(0, fun _ => 0), fun h => absurd h hj⟩
  obtain ⟨F, hF⟩ := Classical.axiomOfChoice key
  exact ⟨fun j => (F j).1, fun j => (F j).2, hF⟩
/-- a sum over the groups that have the powers -/
def gN (pq : Nat → Bool) (F : Nat → Int) : Nat → Int
  | 0 => 0
  | n + 1 => gN pq F n + if pq n = true then F n else 0
theorem gN_cg {pq : Nat → Bool} {F F' : Nat → Int} : ∀ {n : Nat}, (∀ j, j < n → pq j = true → F j = F' j) → gN pq F n = gN pq F' n
  | 0, _ => rfl
  | n + 1, h => by
    rw [gN, gN, gN_cg (n := n) (fun j hj => h j (by omega))]
    by_cases c : pq n = true
    · rw [if_pos c, if_pos c, h n (by omega) c]
    · rw [if_neg c, if_neg c]
theorem gN_add {pq : Nat → Bool} {F F' : Nat → Int} : ∀ n : Nat, gN pq (fun j => F j + F' j) n = gN pq F n + gN pq F' n
  | 0 => rfl
  | n + 1 => by
    rw [gN, gN, gN, gN_add n]
    by_cases c : pq n = true
    · rw [if_pos c, if_pos c, if_pos c]; omega
    · rw [if_neg c, if_neg c, if_neg c]; omega
theorem gN_one {pq : Nat → Bool} {s : Int} {K : Nat → Int} {k : Nat} : ∀ n : Nat, gN pq (fun j => (if k = j then s else 0) * K j) n = if k < n ∧ pq k = true then s * K k else 0
  | 0 => by rw [gN, if_neg (by omega)]
  | n + 1 => by
    rw [gN, gN_one n]
    by_cases e : k = n
    · subst e
      rw [if_neg (by omega), if_pos rfl]
      by_cases c : pq k = true
      · rw [if_pos c, if_pos ⟨by omega, c⟩]; omega
      · rw [if_neg c, if_neg (fun z => c z.2)]; omega
    · rw [if_neg e, Int.zero_mul, ite_self, Int.add_zero]
      by_cases c : k < n ∧ pq k = true
      · rw [if_pos c, if_pos ⟨by omega, c.2⟩]
      · rw [if_neg c, if_neg (fun z => c ⟨by omega, z.2⟩)]
theorem sN_gN (e : Nat → Nat → Nat) (tp : Nat → Int) (pq : Nat → Bool) (E : Nat → Nat) : ∀ n, sN e tp pq E n = gN pq (fun j => tp j * (pw (fun i => E i - e j i) 25 : Nat)) n
  | 0 => rfl
  | n + 1 => by rw [sN, gN, sN_gN e tp pq E n]
/-- the same sum, drawing by drawing -/
noncomputable def rNL (pq : Nat → Bool) (K : Nat → Int) : List Dw → Int
  | [] => 0
  | d :: r => (if pq d.1 = true then sgR d.2.1 d.2.2 * (obN d.2.1 d.2.2 : Nat) * K d.1 else 0) + rNL pq K r
theorem rNL_app (pq : Nat → Bool) (K : Nat → Int) : ∀ A E : List Dw, rNL pq K (A ++ E) = rNL pq K A + rNL pq K E
  | [], E => by rw [List.nil_append, rNL, Int.zero_add]
  | d :: r, E => by rw [List.cons_append, rNL, rNL, rNL_app pq K r E]; omega
theorem gN_zero {pq : Nat → Bool} : ∀ n : Nat, gN pq (fun _ => 0) n = 0
  | 0 => rfl
  | n + 1 => by rw [gN, gN_zero n, ite_self]; rfl
theorem gN_rNL {pq : Nat → Bool} {K : Nat → Int} {n : Nat} : ∀ DL : List Dw, (∀ d, d ∈ DL → d.1 < n) → gN pq (fun j => swL j DL * K j) n = rNL pq K DL
  | [], _ => by
    have : (fun j => swL j [] * K j) = fun _ => 0 := by funext j; rw [swL, Int.zero_mul]
    rw [this, gN_zero, rNL]
  | d :: r, h => by
    have e : (fun j => swL j (d :: r) * K j) = fun j => (if d.1 = j then sgR d.2.1 d.2.2 * (obN d.2.1 d.2.2 : Nat) else 0) * K j + swL j r * K j := by
      funext j
      rw [swL, Int.add_mul]
    rw [e, gN_add (F := fun j => (if d.1 = j then sgR d.2.1 d.2.2 * (obN d.2.1 d.2.2 : Nat) else 0) * K j), gN_one, gN_rNL r (fun d hd => h d (List.mem_cons_of_mem _ hd)), rNL]
    have l := h d List.mem_cons_self
    congr 1
    by_cases c : pq d.1 = true
    · rw [if_pos ⟨l, c⟩, if_pos c]
    · rw [if_neg (fun z => c z.2), if_neg c]
end BKb
