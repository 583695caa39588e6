theorem lgc {x y : Int64} : (lg_cmp x y = 0) = (x = y) := by
  unfold lg_cmp
  by_cases c1 : x > y
  · rw [if_pos c1]
    exact propext ⟨fun h => absurd h (by decide), fun h => by
      subst h
      exact absurd (Int64.lt_iff_toInt_lt.mp c1) (by omega)⟩
  · rw [if_neg c1]
    by_cases c2 : x = y
    · rw [if_pos c2]; exact propext ⟨fun _ => c2, fun _ => rfl⟩
    · rw [if_neg c2]; exact propext ⟨fun h => absurd h (by decide), fun h => absurd h c2⟩
theorem J_eqN {a b : Nat} (ha : a < 9223372036854775808) (hb : b < 9223372036854775808) : (J a = J b) = (a = b) := by
  rw [J_eq (by omega) (by omega)]
  exact propext ⟨fun h => by omega, fun h => by omega⟩
theorem I_eqN {a b : Nat} (ha : a < 2147483648) (hb : b < 2147483648) : (I a = I b) = (a = b) := by
  rw [I_eq (by omega) (by omega)]
  exact propext ⟨fun h => by omega, fun h => by omega⟩
theorem I_ltN {a b : Nat} (ha : a < 2147483648) (hb : b < 2147483648) : (I a < I b) = (a < b) := by
  rw [I_lt (by omega) (by omega)]
  exact propext ⟨fun h => by omega, fun h => by omega⟩
theorem wrun_gt {T : Nat → Int} {e s : Nat} {lo hi : Int} (hs : s < e) (h : lo ≤ T s ∧ T s ≤ hi) : ∀ r, 0 < r → s < wrun T e lo hi r s
  | 0, c => absurd c (Nat.lt_irrefl _)
  | r + 1, _ => by
    rw [wrun, if_pos ⟨hs, h⟩]
    have := (wrun_le (T := T) (lo := lo) (hi := hi) r (s + 1) hs).1
    omega
theorem tokAt_bd {T : Nat → Int} {e s : Nat} (hs : s ≤ e) : (tokAt T e s).1 ≤ 5 ∧ ((tokAt T e s).1 ≠ 5 → (tokAt T e s).2.2.1 ≤ e) ∧ ((tokAt T e s).1 = 1 → tW (tokAt T e s) < 1099511627776) ∧ ((tokAt T e s).1 = 2 → tV (tokAt T e s) ≤ 999) ∧ (tokAt T e s).2.1 = s ∧ ((tokAt T e s).1 ≠ 5 → (tokAt T e s).1 ≠ 0 → s < (tokAt T e s).2.2.1) := by
  unfold tokAt
  by_cases c1 : e ≤ s
  · rw [if_pos c1]
    exact ⟨Nat.le_of_ble_eq_true rfl, fun _ => hs, fun h => by simp at h, fun h => by simp at h, rfl, fun _ h => absurd rfl h⟩
  · rw [if_neg c1]
    by_cases c2 : 97 ≤ T s ∧ T s ≤ 122
    · rw [if_pos c2]
      obtain ⟨w1, w2, w3⟩ := wrun_le (T := T) (e := e) (lo := 97) (hi := 122) e s hs
      have w4 := wrun_gt (T := T) (e := e) (s := s) (lo := 97) (hi := 122) (by omega) c2 e (by omega)
      by_cases c3 : wrun T e 97 122 e s - s ≤ 8
      · rw [if_pos c3]
        refine ⟨Nat.le_of_ble_eq_true rfl, fun _ => w2, fun _ => ?_, fun h => by simp at h, rfl, fun _ _ => w4⟩
        have a := wval_lt (T := T) (s := s) (wrun T e 97 122 e s - s) (fun i i1 i2 => w3 i i1 (by omega))
        have b : 32 ^ (wrun T e 97 122 e s - s) ≤ 32 ^ 8 := Nat.pow_le_pow_right (by omega) c3
        show wval T s (wrun T e 97 122 e s - s) < 1099511627776
        omega
      · rw [if_neg c3]
        exact ⟨Nat.le_of_ble_eq_true rfl, fun h => absurd rfl h, fun h => by simp at h, fun h => by simp at h, rfl, fun h => absurd rfl h⟩
    · rw [if_neg c2]
      by_cases c3 : 48 ≤ T s ∧ T s ≤ 57
      · rw [if_pos c3]
        obtain ⟨w1, w2, w3⟩ := wrun_le (T := T) (e := e) (lo := 48) (hi := 57) e s hs
        have w4 := wrun_gt (T := T) (e := e) (s := s) (lo := 48) (hi := 57) (by omega) c3 e (by omega)
        by_cases c4 : wrun T e 48 57 e s - s ≤ 3
        · rw [if_pos c4]
          refine ⟨Nat.le_of_ble_eq_true rfl, fun _ => w2, fun h => by simp at h, fun _ => ?_, rfl, fun _ _ => w4⟩
          have a := nval_lt (T := T) (s := s) (wrun T e 48 57 e s - s) (fun i i1 i2 => w3 i i1 (by omega))
          have b : 10 ^ (wrun T e 48 57 e s - s) ≤ 10 ^ 3 := Nat.pow_le_pow_right (by omega) c4
          show nval T s (wrun T e 48 57 e s - s) ≤ 999
          omega
        · rw [if_neg c4]
          exact ⟨Nat.le_of_ble_eq_true rfl, fun h => absurd rfl h, fun h => by simp at h, fun h => by simp at h, rfl, fun h => absurd rfl h⟩
      · rw [if_neg c3]
        by_cases c4 : T s = 59
        · rw [if_pos c4]
          exact ⟨Nat.le_of_ble_eq_true rfl, fun _ => by show s + 1 ≤ e; omega, fun h => by simp at h, fun h => by simp at h, rfl, fun _ _ => by show s < s + 1; omega⟩
        · rw [if_neg c4]
          by_cases c5 : T s = 45
          · rw [if_pos c5]
            exact ⟨Nat.le_of_ble_eq_true rfl, fun _ => by show s + 1 ≤ e; omega, fun h => by simp at h, fun h => by simp at h, rfl, fun _ _ => by show s < s + 1; omega⟩
          · rw [if_neg c5]
            exact ⟨Nat.le_of_ble_eq_true rfl, fun h => absurd rfl h, fun h => by simp at h, fun h => by simp at h, rfl, fun h => absurd rfl h⟩
section P61
variable {sh : List Sh} {f : Nat} {S : St} {T : Nat → Int} {e d u : Nat} {D : Dr} {k : TK}
/-- the draft at cell d tells D; of the kinds told the first u have all that belongs to them -/
def bkU (S : St) (b : Nat) (B : Bk) (u : Nat) : Prop := sI S b 9 = I (bK B) ∧ sI S b 10 = I (bR B) ∧ (∀ i, i < u → sA S (b + 2) i = I (bF B i) ∧ sA S (b + 3) i = I (bH B i) ∧ sA S (b + 4) i = I (bM B i) ∧ sA S (b + 5) i = I (bS B i)) ∧ ∀ r, r < bR B → sA S (b + 6) r = I (bZ B r) ∧ sA S (b + 7) r = I (bW B r) ∧ sA S (b + 8) r = I (bL B r) ∧ ∀ k, k < bZ B r → sA S (b + 9) (4 * r + k) = I (bG B r k)
theorem bkU_sm {S S' : St} {b : Nat} {B : Bk} (h : bkU S b B u) (g : ∀ k, b ≤ k → k ≤ b + 9 → Sm S S' k) : bkU S' b B u := by
  obtain ⟨h1, h2, h3, h4⟩ := h
  refine ⟨((g b (by omega) (by omega)).I 9).trans h1, ((g b (by omega) (by omega)).I 10).trans h2, fun i hi => ?_, fun r hr => ?_⟩
  · obtain ⟨a1, a2, a3, a4⟩ := h3 i hi
    exact ⟨((g (b + 2) (by omega) (by omega)).A i).trans a1, ((g (b + 3) (by omega) (by omega)).A i).trans a2, ((g (b + 4) (by omega) (by omega)).A i).trans a3, ((g (b + 5) (by omega) (by omega)).A i).trans a4⟩
  · obtain ⟨a1, a2, a3, a4⟩ := h4 r hr
    exact ⟨((g (b + 6) (by omega) (by omega)).A r).trans a1, ((g (b + 7) (by omega) (by omega)).A r).trans a2, ((g (b + 8) (by omega) (by omega)).A r).trans a3, fun k hk => ((g (b + 9) (by omega) (by omega)).A _).trans (a4 k hk)⟩
def dC (S : St) (d : Nat) (D : Dr) (u : Nat) : Prop := bkU S d D.2 u ∧ bK D.2 ≤ 8 ∧ bR D.2 ≤ 4 ∧ ∀ i, i < bK D.2 → sL S (d + 1) i = J (D.1 i) ∧ D.1 i < 1099511627776
def tkB (e : Nat) (k : TK) : Prop := k.1 ≤ 5 ∧ (k.1 ≠ 5 → k.2.2.1 ≤ e) ∧ (k.1 = 1 → tW k < 1099511627776) ∧ (k.1 = 2 → tV k ≤ 999) ∧ tS_ k ≤ e
def tk8 (S : St) (e : Nat) (k : TK) : Prop := k.1 ≤ 5 ∧ (k.1 ≠ 5 → k.2.2.1 ≤ e) ∧ (k.1 = 1 → tW k < 1099511627776) ∧ (k.1 = 2 → tV k ≤ 999) ∧ tS_ k ≤ e ∧ sI S 1 8 = I 0
theorem tok8 (h : tkB e k) (g : sI S 1 8 = I 0) : tk8 S e k := ⟨h.1, h.2.1, h.2.2.1, h.2.2.2.1, h.2.2.2.2, g⟩
/-- the reader in the middle of a text -/
def rdC (S : St) (d : Nat) (T : Nat → Int) (e : Nat) (D : Dr) (k : TK) (u : Nat) : Prop := sI S 1 2 = I e ∧ (∀ i, i < e → sA S 2 i = I (T i)) ∧ sR S 1 10 = some d ∧ cTk S k ∧ dC S d D u ∧ tk8 S e k
/-- what reading may change: the reader's fields but its length, the draft -/
def fD (S S' : St) (d : Nat) : Prop := (∀ c, c ≠ 1 → (c < d ∨ d + 9 < c) → Sm S S' c) ∧ sI S' 1 1 = sI S 1 1 ∧ sR S' = sR S
theorem fD.trans {S S' S'' : St} (h : fD S S' d) (g : fD S' S'' d) : fD S S'' d := ⟨fun c a b => (h.1 c a b).trans (g.1 c a b), g.2.1.trans h.2.1, g.2.2.trans h.2.2⟩
theorem fD.of1 {S S' : St} (h : C1 S S') : fD S S' d := ⟨fun c a _ => h.1 c a, h.2.1 1 (by omega) (by omega) (by omega) (by omega), h.2.2.1⟩
theorem dC_sm {S S' : St} (h : dC S d D u) (g : ∀ c, d ≤ c → c ≤ d + 9 → Sm S S' c) : dC S' d D u := ⟨bkU_sm h.1 g, h.2.1, h.2.2.1, fun i hi => ⟨((g (d + 1) (by omega) (by omega)).L i).trans (h.2.2.2 i hi).1, (h.2.2.2 i hi).2⟩⟩
theorem tok_bd {m : Nat} (hm : m ≤ e) : tkB e (tok T e m) := by
  obtain ⟨s1, s2⟩ := skp_le (T := T) e m hm
  obtain ⟨a1, a2, a3, a4, a5, a6⟩ := tokAt_bd (T := T) s2
  exact ⟨a1, a2, a3, a4, by show (tokAt T e (skp T e e m)).2.1 ≤ e; rw [a5]; exact s2⟩
theorem c_advR (hT : ∀ i, -128 ≤ T i ∧ T i ≤ 127) (he : e ≤ 400) (hf : 1000 ≤ f) (hd : 2 ≤ d) (h : rdC S d T e D k u) (hk : k.1 ≠ 5) : ∃ S', F_X6_advance sh f S 1 = some S' ∧ rdC S' d T e D (adv T e k) u ∧ fD S S' d := by
  obtain ⟨h1, h2, h3, h4, h5, h6⟩ := h
  obtain ⟨S', g1, g2, g3⟩ := c_adv (sh := sh) hT he hf (h6.2.1 hk) h1 (h4.2.2.1 hk) h2
  refine ⟨S', g1, ⟨(g2.2.1 2 (by omega) (by omega) (by omega) (by omega)).trans h1, fun i hi => ?_, ?_, g3, dC_sm h5 (fun c a _ => g2.1 c (by omega)), tok8 (tok_bd (h6.2.1 hk)) ((g2.2.1 8 (by omega) (by omega) (by omega) (by omega)).trans h6.2.2.2.2.2)⟩, fD.of1 g2⟩
  · rw [g2.2.2.2.1]; exact h2 i hi
  · rw [g2.2.2.1]; exact h3
theorem c_isName (h : rdC S d T e D k u) : F_X6_isName sh f S 1 = some (if nmB k = true then 1 else 0) := by
  obtain ⟨h1, h2, h3, h4, h5, h6⟩ := h
  have k5 := h6.1
  have q : (sI S 1 4 = 1) = (k.1 = 1) := by
    rw [h4.1]
    exact I_eqN (b := 1) (by omega) (by omega)
  unfold F_X6_isName nmB
  by_cases c : k.1 = 1
  · have w := h4.2.2.2.1 c
    have b := h6.2.2.1 c
    have e1 : (sJ S 1 6 = (16110 : Int64)) = (tW k = 16110) := by rw [w]; exact J_eqN (b := 16110) (by unfold tW at b; omega) (by omega)
    have e2 : (sJ S 1 6 = (525618 : Int64)) = (tW k = 525618) := by rw [w]; exact J_eqN (b := 525618) (by unfold tW at b; omega) (by omega)
    have e3 : (sJ S 1 6 = (263558 : Int64)) = (tW k = 263558) := by rw [w]; exact J_eqN (b := 263558) (by unfold tW at b; omega) (by omega)
    have e4 : (sJ S 1 6 = (431284 : Int64)) = (tW k = 431284) := by rw [w]; exact J_eqN (b := 431284) (by unfold tW at b; omega) (by omega)
    have e5 : (sJ S 1 6 = (89 : Int64)) = (tW k = 89) := by rw [w]; exact J_eqN (b := 89) (by unfold tW at b; omega) (by omega)
    simp only [lgc, q, e1, e2, e3, e4, e5, c, if_true, decide_true, Bool.true_and]
    by_cases a1 : tW k = 16110
    · simp [a1]
    · by_cases a2 : tW k = 525618
      · simp [a2]
      · by_cases a3 : tW k = 263558
        · simp [a3]
        · by_cases a4 : tW k = 431284
          · simp [a4]
          · by_cases a5 : tW k = 89
            · simp [a5]
            · simp [a1, a2, a3, a4, a5]
  · simp [q, c]
theorem c_find0 {w : Nat} (hw : w < 1099511627776) (h : dC S d D u) : ∀ (r i n : Nat), i + r = bK D.2 → r < n → F_X0_findKind_L2 sh f S d (J w) n (I i) = some (match findN D.1 w r i with
    | none => -1
    | some j => I j) := by
  obtain ⟨h1, h2, h3, h4⟩ := h
  intro r
  induction r with
  | zero =>
    intro i n a b
    obtain ⟨n, rfl⟩ : ∃ e, n = e + 1 := ⟨n - 1, by omega⟩
    rw [F_X0_findKind_L2, if_pos (by rw [h1.1, I_leN (by omega) (by omega)]; omega)]
    rfl
  | succ r ih =>
    intro i n a b
    obtain ⟨n, rfl⟩ : ∃ e, n = e + 1 := ⟨n - 1, by omega⟩
    have c1 : ¬ sI S d 9 ≤ I i := by rw [h1.1, I_leN (by omega) (by omega)]; omega
    have cl : (I i).toNatClampNeg = i := I_clN (by omega)
    have c2 : ¬ (I i < 0 ∨ 8 ≤ (I i).toNatClampNeg) := by
      rw [cl, show (0 : Int32) = I 0 from rfl, I_lt (by omega) (by omega)]; omega
    obtain ⟨n1, n2⟩ := h4 i (by omega)
    have q : (J (D.1 i) = J w) = (D.1 i = w) := J_eqN (by omega) (by omega)
    rw [F_X0_findKind_L2, if_neg c1, if_neg c2, findN]
    simp only [lgc, cl, n1, q, bnd]
    by_cases c3 : D.1 i = w
    · rw [if_pos c3, if_pos c3]
    · rw [if_neg c3, if_neg c3, show (1 : Int32) = I 1 from rfl, I_add]
      exact ih (i + 1) n (by omega) (by omega)
theorem c_find {w : Nat} (hw : w < 1099511627776) (hf : 1000 ≤ f) (h : dC S d D u) : F_X0_findKind sh f S d (J w) = some (match findN D.1 w (bK D.2) 0 with
    | none => -1
    | some j => I j) := c_find0 hw h (bK D.2) 0 f (by omega) (by have := h.2.1; omega)
theorem find_lt {nm : Nat → Nat} {w : Nat} : ∀ (r i j : Nat), findN nm w r i = some j → i ≤ j ∧ j < i + r
  | 0, _, _, h => by cases h
  | r + 1, i, j, h => by
    rw [findN] at h
    by_cases c : nm i = w
    · rw [if_pos c] at h
      cases h
      exact ⟨by omega, by omega⟩
    · rw [if_neg c] at h
      have := find_lt r (i + 1) j h
      exact ⟨by omega, by omega⟩
/-- the answer of a reading method, and the state behind it -/
def rdO (S : St) (d : Nat) (T : Nat → Int) (e : Nat) (o : Option (Int32 × St)) (x : PR (Dr × TK)) (u : Nat) : Prop := ∃ b S', o = some (b, S') ∧ fD S S' d ∧ (match x with
    | .inl a => b = 0 ∧ sI S' 1 8 = I a.1 ∧ sI S' 1 9 = I a.2
    | .inr a => b = 1 ∧ rdC S' d T e a.1 a.2 u)
theorem fail_ok {w at_ : Int32} : F_X6_fail sh f S 1 w at_ = some (0, uI (uI S 1 8 w) 1 9 at_) := rfl
theorem fail_fD {w at_ : Int32} : fD S (uI (uI S 1 8 w) 1 9 at_) d := ⟨fun c a _ => (by repeat' (first | exact Sm.rfl | (refine Sm.uI ?_ (by omega)) | (refine Sm.uA ?_ (by omega)) | (refine Sm.uJ ?_ (by omega)) | (refine Sm.uL ?_ (by omega)) | (refine Sm.uR ?_ (by omega)))), rfl, rfl⟩
theorem c_new (hT : ∀ i, -128 ≤ T i ∧ T i ≤ 127) (he : e ≤ 400) (hf : 1000 ≤ f) (hd : 2 ≤ d) (ck : ckX0 sh d = true) (h : rdC S d T e D k u) : rdO S d T e (F_X6_readNewName sh f S 1) (pNew T e D k) u := by
  have hn := c_isName (sh := sh) (f := f) h
  obtain ⟨h1, h2, h3, h4, h5, h6⟩ := h
  unfold F_X6_readNewName pNew
  rw [hn, Option.bind_some]
  by_cases c : nmB k = true
  · have c1 : k.1 = 1 := by
      unfold nmB at c
      exact of_decide_eq_true (Bool.and_eq_true_iff.mp c).1
    have wb := h6.2.2.1 c1
    have w := h4.2.2.2.1 c1
    have fk := c_find (sh := sh) (f := f) wb hf h5
    rw [if_pos c, if_pos c, if_neg i10, h3, Option.bind_some, if_pos ck, w, show k.2.2.2.1 = tW k from rfl, fk, Option.bind_some]
    cases hfd : findN D.1 (tW k) (bK D.2) 0 with
    | some j =>
      have := (find_lt _ _ _ hfd).2
      have k8 := h5.2.1
      have cj : ¬ I (j : Int) = -1 := by rw [show (-1 : Int32) = I (-1) from rfl, I_eq (by omega) (by omega)]; omega
      simp only [if_neg cj, fail_ok, Option.bind_some, true_or, or_true, not_true_eq_false, if_false, Option.isSome_some, if_true]
      exact ⟨0, _, rfl, fail_fD, rfl, rfl, h4.2.1⟩
    | none =>
      simp only [if_true, Option.bind_some, if_pos ck, Option.isSome_none, Bool.false_eq_true, if_false]
      have k8 := h5.2.1
      have q : (sI S d 9 < 8) = (bK D.2 < 8) := by rw [h5.1.1]; exact I_ltN (b := 8) (by omega) (by omega)
      unfold F_X0_addKind
      by_cases c8 : bK D.2 < 8
      · have cl : (sI S d 9).toNatClampNeg = bK D.2 := by rw [h5.1.1]; exact I_clN (by omega)
        have cg : ¬ (sI S d 9 < 0 ∨ 8 ≤ (sI S d 9).toNatClampNeg) := by
          rw [cl, h5.1.1, show (0 : Int32) = I 0 from rfl, I_lt (by omega) (by omega)]; omega
        rw [cl] at cg
        rw [if_neg (by omega : ¬ 8 ≤ bK D.2)]
        simp only [q, if_pos c8, cl, if_neg cg, bnd, Option.bind_some, if_neg i10]
        have e9 : sI (uL S (d + 1) (bK D.2) (J (tW k))) d 9 + 1 = I ((bK D.2 + 1 : Nat) : Int) := by
          rw [show sI (uL S (d + 1) (bK D.2) (J (tW k))) d 9 = I (bK D.2) from h5.1.1, show (1 : Int32) = I 1 from rfl, I_add]
          rfl
        rw [e9]
        have fU : fD S (uI (uL S (d + 1) (bK D.2) (J (tW k))) d 9 (I ((bK D.2 + 1 : Nat) : Int))) d := ⟨fun c a b => (by repeat' (first | exact Sm.rfl | (refine Sm.uI ?_ (by omega)) | (refine Sm.uA ?_ (by omega)) | (refine Sm.uJ ?_ (by omega)) | (refine Sm.uL ?_ (by omega)) | (refine Sm.uR ?_ (by omega)))), by rw [sI_uI, if_neg (by omega)]; rfl, rfl⟩
        have rU : rdC (uI (uL S (d + 1) (bK D.2) (J (tW k))) d 9 (I ((bK D.2 + 1 : Nat) : Int))) d T e (addK D (tW k)) k u := by
          have s1 : ∀ j, sI (uI (uL S (d + 1) (bK D.2) (J (tW k))) d 9 (I ((bK D.2 + 1 : Nat) : Int))) 1 j = sI S 1 j := fun j => by rw [sI_uI, if_neg (by omega)]; rfl
          refine ⟨(s1 2).trans h1, h2, h3, ⟨(s1 4).trans h4.1, (s1 5).trans h4.2.1, fun a => (s1 3).trans (h4.2.2.1 a), h4.2.2.2.1, fun a => (s1 7).trans (h4.2.2.2.2 a)⟩, ⟨⟨?_, ?_, ?_, ?_⟩, ?_, h5.2.2.1, ?_⟩, ⟨h6.1, h6.2.1, h6.2.2.1, h6.2.2.2.1, h6.2.2.2.2.1, (s1 8).trans h6.2.2.2.2.2⟩⟩
          · exact sI_self _ _ _ _
          · rw [sI_uI, if_pos rfl, if_neg (by omega)]; exact h5.1.2.1
          · exact h5.1.2.2.1
          · exact h5.1.2.2.2
          · show bK D.2 + 1 ≤ 8; omega
          · intro i hi
            show up2 S.2.1 (d + 1) (bK D.2) (J (tW k)) (d + 1) i = J ((up1 D.1 (bK D.2) (tW k) i : Nat) : Int) ∧ up1 D.1 (bK D.2) (tW k) i < _
            rw [up1_if]
            by_cases ci : i = bK D.2
            · rw [if_pos ci, ci, up2_self]; exact ⟨rfl, wb⟩
            · rw [if_neg ci, up2_ne _ _ _ ci]
              have : i < bK D.2 + 1 := hi
              exact h5.2.2.2 i (by omega)
        obtain ⟨S', g1, g2, g3⟩ := c_advR (sh := sh) hT he hf hd rU (by omega)
        rw [g1, Option.bind_some]
        exact ⟨1, S', rfl, fU.trans g3, rfl, g2⟩
      · rw [if_pos (by omega : 8 ≤ bK D.2)]
        simp only [q, if_neg c8, Option.bind_some, if_true, fail_ok, true_or, or_true, not_true_eq_false, if_false]
        exact ⟨0, _, rfl, fail_fD, rfl, rfl, h4.2.1⟩
  · rw [if_neg c, if_neg c, if_pos rfl, fail_ok, Option.bind_some, if_neg n01]
    exact ⟨0, _, rfl, fail_fD, rfl, rfl, h4.2.1⟩
end P61
