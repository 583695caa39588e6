section R70
variable {sh : List Sh} {f : Nat} {S : St} {T : Nat → Int} {e q u m : Nat} {D : Dr} {k : TK}
theorem r_w0 {g : Nat} : F_X12_wordOf sh (g + 10) S 0 = some (J ((16110 : Nat) : Int)) := rfl
theorem r_w1 {g : Nat} : F_X12_wordOf sh (g + 10) S 1 = some (J ((525618 : Nat) : Int)) := rfl
theorem r_w2 {g : Nat} : F_X12_wordOf sh (g + 10) S 2 = some (J ((263558 : Nat) : Int)) := rfl
theorem r_w3 {g : Nat} : F_X12_wordOf sh (g + 10) S 3 = some (J ((431284 : Nat) : Int)) := rfl
theorem r_w4 {g : Nat} : F_X12_wordOf sh (g + 10) S 4 = some (J ((89 : Nat) : Int)) := rfl
theorem r_w5 {g : Nat} : F_X12_wordOf sh (g + 10) S 5 = some (J ((1 : Nat) : Int)) := rfl
theorem r_w6 {g : Nat} : F_X12_wordOf sh (g + 10) S 6 = some (J ((2 : Nat) : Int)) := rfl
theorem r_w7 {g : Nat} : F_X12_wordOf sh (g + 10) S 7 = some (J ((3 : Nat) : Int)) := rfl
def wdOf (i : Nat) : Nat := if i = 0 then 16110 else if i = 1 then 525618 else if i = 2 then 263558 else if i = 3 then 431284 else if i = 4 then 89 else if i = 5 then 1 else if i = 6 then 2 else 3
theorem r_wordOf {i : Nat} (hf : 1000 ≤ f) (hi : i < 8) : F_X12_wordOf sh f S i = some (J (wdOf i)) := by
  obtain ⟨g, rfl⟩ : ∃ g, f = g + 10 := ⟨f - 10, by omega⟩
  have h : i = 0 ∨ i = 1 ∨ i = 2 ∨ i = 3 ∨ i = 4 ∨ i = 5 ∨ i = 6 ∨ i = 7 := by omega
  rcases h with rfl | rfl | rfl | rfl | rfl | rfl | rfl | rfl
  · exact r_w0
  · exact r_w1
  · exact r_w2
  · exact r_w3
  · exact r_w4
  · exact r_w5
  · exact r_w6
  · exact r_w7
/-- the reference's book in the making, at cell q; of the kinds told the first u have all that belongs to them -/
def bkV (S : St) (q : Nat) (B : Bk) (u : Nat) : Prop := sI S q 0 = I (bK B) ∧ sI S q 1 = I (bR B) ∧ (∀ i, i < u → sA S (q + 2) i = I (bF B i) ∧ sA S (q + 3) i = I (bH B i) ∧ sA S (q + 4) i = I (bM B i) ∧ sA S (q + 5) i = I (bS B i) ∧ sA S (q + 10) i = (if bF B i < i then I 1 else I 0)) ∧ ∀ r, r < bR B → sA S (q + 6) r = I (bZ B r) ∧ sA S (q + 8) r = I (bW B r) ∧ sA S (q + 9) r = I (bL B r) ∧ ∀ k, k < bZ B r → sA S (q + 7) (4 * r + k) = I (bG B r k)
theorem bkV_sm {S S' : St} {B : Bk} (h : bkV S q B u) (g : ∀ k, q ≤ k → k ≤ q + 10 → Sm S S' k) : bkV S' q B u := by
  obtain ⟨h1, h2, h3, h4⟩ := h
  refine ⟨((g q (by omega) (by omega)).I 0).trans h1, ((g q (by omega) (by omega)).I 1).trans h2, fun i hi => ?_, fun r hr => ?_⟩
  · obtain ⟨a1, a2, a3, a4, a5⟩ := h3 i hi
    exact ⟨((g (q + 2) (by omega) (by omega)).A i).trans a1, ((g (q + 3) (by omega) (by omega)).A i).trans a2, ((g (q + 4) (by omega) (by omega)).A i).trans a3, ((g (q + 5) (by omega) (by omega)).A i).trans a4, ((g (q + 10) (by omega) (by omega)).A i).trans a5⟩
  · obtain ⟨a1, a2, a3, a4⟩ := h4 r hr
    exact ⟨((g (q + 6) (by omega) (by omega)).A r).trans a1, ((g (q + 8) (by omega) (by omega)).A r).trans a2, ((g (q + 9) (by omega) (by omega)).A r).trans a3, fun k hk => ((g (q + 7) (by omega) (by omega)).A _).trans (a4 k hk)⟩
def dR (S : St) (q : Nat) (D : Dr) (u : Nat) : Prop := bkV S q D.2 u ∧ bK D.2 ≤ 8 ∧ bR D.2 ≤ 4 ∧ ∀ i, i < bK D.2 → sL S (q + 1) i = J (D.1 i) ∧ D.1 i < 1099511627776
theorem dR_sm {S S' : St} (h : dR S q D u) (g : ∀ c, q ≤ c → c ≤ q + 10 → Sm S S' c) : dR S' q D u := ⟨bkV_sm h.1 g, h.2.1, h.2.2.1, fun i hi => ⟨((g (q + 1) (by omega) (by omega)).L i).trans (h.2.2.2 i hi).1, (h.2.2.2 i hi).2⟩⟩
def rdR (S : St) (q : Nat) (T : Nat → Int) (e : Nat) (D : Dr) (k : TK) (u : Nat) : Prop := sI S 94 10 = I e ∧ (∀ i, i < e → sA S 107 i = I (T i)) ∧ sR S 94 6 = some q ∧ rTk S k ∧ dR S q D u ∧ tkB e k
/-- what reading may change in the reference: its reading fields, the stop, the book in the making -/
def fR (S S' : St) (q : Nat) : Prop := (∀ c, c ≠ 94 → c ≠ 106 → (c < q ∨ q + 10 < c) → Sm S S' c) ∧ (∀ j, j < 11 ∨ 15 < j → sI S' 94 j = sI S 94 j) ∧ (∀ j, j ≠ 16 → sJ S' 94 j = sJ S 94 j) ∧ sR S' = sR S
theorem fR.trans {S S' S'' : St} (h : fR S S' q) (g : fR S' S'' q) : fR S S'' q := ⟨fun c a b d => (h.1 c a b d).trans (g.1 c a b d), fun j a => (g.2.1 j a).trans (h.2.1 j a), fun j a => (g.2.2.1 j a).trans (h.2.2.1 j a), g.2.2.2.trans h.2.2.2⟩
theorem fR.of9 {S S' : St} (h : C9 S S') : fR S S' q := ⟨fun c a _ _ => h.1 c a, h.2.1, h.2.2.1, h.2.2.2.1⟩
theorem r_advR (hT : ∀ i, -128 ≤ T i ∧ T i ≤ 127) (he : e ≤ 400) (hf : 1000 ≤ f) (hq : q = 95 ∨ 159 ≤ q) (h : rdR S q T e D k u) (hk : k.1 ≠ 5) : ∃ S', F_X12_next sh f S 94 = some S' ∧ rdR S' q T e D (adv T e k) u ∧ C9 S S' := by
  obtain ⟨h1, h2, h3, h4, h5, h6⟩ := h
  obtain ⟨S', g1, g2, g3⟩ := r_adv (sh := sh) hT he hf (h6.2.1 hk) h1 (h4.2.1 hk) h2
  refine ⟨S', g1, ⟨(g2.2.1 10 (by omega)).trans h1, fun i hi => ?_, ?_, g3, dR_sm h5 (fun c a _ => g2.1 c (by omega)), tok_bd (h6.2.1 hk)⟩, g2⟩
  · rw [g2.2.2.2.2.1]; exact h2 i hi
  · rw [g2.2.2.2.1]; exact h3
theorem r_sort (h : rdR S q T e D k u) : (sI S 94 12 = 2) = (k.1 = 1) ∧ (sI S 94 12 = 3) = (k.1 = 2) ∧ (sI S 94 12 = 1) = (k.1 = 0) ∧ (sI S 94 12 = 4) = (k.1 = 3 ∨ k.1 = 4) := by
  have k5 := h.2.2.2.2.2.1
  have e12 := h.2.2.2.1.2.2.1
  have c : k.1 = 0 ∨ k.1 = 1 ∨ k.1 = 2 ∨ k.1 = 3 ∨ k.1 = 4 ∨ k.1 = 5 := by omega
  rw [e12]
  rcases c with c | c | c | c | c | c <;> rw [c] <;> decide
theorem r_isWord {i : Nat} (hf : 1000 ≤ f) (hi : i < 8) (h : rdR S q T e D k u) : F_X12_isWord sh f S 94 i = some (if k.1 = 1 ∧ tW k = wdOf i then 1 else 0) := by
  have s := (r_sort h).1
  unfold F_X12_isWord
  simp only [s]
  by_cases c : k.1 = 1
  · have w := h.2.2.2.1.2.2.2.2.2.1 c
    have b := h.2.2.2.2.2.2.2.1 c
    have wb : wdOf i < 1000000 := by
      have h : i = 0 ∨ i = 1 ∨ i = 2 ∨ i = 3 ∨ i = 4 ∨ i = 5 ∨ i = 6 ∨ i = 7 := by omega
      rcases h with rfl | rfl | rfl | rfl | rfl | rfl | rfl | rfl <;> decide
    have e1 : (sJ S 94 16 = J (wdOf i)) = (tW k = wdOf i) := by rw [w]; exact J_eqN (by unfold tW at b; omega) (by omega)
    simp only [if_pos c, r_wordOf hf hi, Option.bind_some, lgc, e1]
    by_cases c2 : tW k = wdOf i
    · rw [if_pos c2, if_pos ⟨c, c2⟩]
    · rw [if_neg c2, if_neg (fun h : k.1 = 1 ∧ tW k = wdOf i => c2 h.2)]
  · simp only [if_neg c, if_neg (fun h : k.1 = 1 ∧ tW k = wdOf i => c h.1)]
theorem r_isName (hf : 1000 ≤ f) (h : rdR S q T e D k u) : F_X12_isName sh f S 94 = some (if nmB k = true then 1 else 0) := by
  have s := (r_sort h).1
  unfold F_X12_isName nmB
  simp only [s, r_isWord hf (by omega : 0 < 8) h, r_isWord hf (by omega : 1 < 8) h, r_isWord hf (by omega : 2 < 8) h, r_isWord hf (by omega : 3 < 8) h, r_isWord hf (by omega : 4 < 8) h, Option.bind_some, show wdOf 0 = 16110 from rfl, show wdOf 1 = 525618 from rfl, show wdOf 2 = 263558 from rfl, show wdOf 3 = 431284 from rfl, show wdOf 4 = 89 from rfl]
  by_cases c : k.1 = 1
  · by_cases a1 : tW k = 16110
    · simp [c, a1]
    · by_cases a2 : tW k = 525618
      · simp [c, a2]
      · by_cases a3 : tW k = 263558
        · simp [c, a3]
        · by_cases a4 : tW k = 431284
          · simp [c, a4]
          · by_cases a5 : tW k = 89
            · simp [c, a5]
            · simp [c, a1, a2, a3, a4, a5]
  · simp [c]
theorem r_is {v : Int32} {n : Nat} (hv : v = 59 ∧ n = 3 ∨ v = 45 ∧ n = 4) (h : rdR S q T e D k u) : F_X12_is sh f S 94 v = some (if k.1 = n then 1 else 0) := by
  have s := (r_sort h).2.2.2
  have m3 := h.2.2.2.1.2.2.2.1
  have m4 := h.2.2.2.1.2.2.2.2.1
  unfold F_X12_is
  simp only [s]
  by_cases c3 : k.1 = 3
  · rw [if_pos (Or.inl c3), m3 c3]
    rcases hv with ⟨rfl, rfl⟩ | ⟨rfl, rfl⟩
    · rw [if_pos (show I 59 = 59 from rfl), if_pos c3]
    · rw [if_neg (by decide), if_neg (by omega)]
  · by_cases c4 : k.1 = 4
    · rw [if_pos (Or.inr c4), m4 c4]
      rcases hv with ⟨rfl, rfl⟩ | ⟨rfl, rfl⟩
      · rw [if_neg (by decide), if_neg (by omega)]
      · rw [if_pos (show I 45 = 45 from rfl), if_pos c4]
    · rw [if_neg (by omega), if_neg (by omega)]
theorem r_find0 {w : Nat} (hw : w < 1099511627776) (h : dR S q D u) : ∀ (r i n : Nat), i + r = bK D.2 → r < n → F_X9_kindOf_L2 sh f S q (J w) n (I i) = some (match findN D.1 w r i with
    | none => -1
    | some j => I j) := by
  obtain ⟨h1, h2, h3, h4⟩ := h
  intro r
  induction r with
  | zero =>
    intro i n a b
    obtain ⟨n, rfl⟩ : ∃ e, n = e + 1 := ⟨n - 1, by omega⟩
    rw [F_X9_kindOf_L2, if_pos (by rw [h1.1, I_leN (by omega) (by omega)]; omega)]
    rfl
  | succ r ih =>
    intro i n a b
    obtain ⟨n, rfl⟩ : ∃ e, n = e + 1 := ⟨n - 1, by omega⟩
    have c1 : ¬ sI S q 0 ≤ I i := by rw [h1.1, I_leN (by omega) (by omega)]; omega
    have cl : (I i).toNatClampNeg = i := I_clN (by omega)
    have c2 : ¬ (I i < 0 ∨ 8 ≤ (I i).toNatClampNeg) := by
      rw [cl, show (0 : Int32) = I 0 from rfl, I_lt (by omega) (by omega)]; omega
    obtain ⟨n1, n2⟩ := h4 i (by omega)
    have qq : (J (D.1 i) = J w) = (D.1 i = w) := J_eqN (by omega) (by omega)
    rw [F_X9_kindOf_L2, if_neg c1, if_neg c2, findN]
    simp only [lgc, cl, n1, qq, bnd]
    by_cases c3 : D.1 i = w
    · rw [if_pos c3, if_pos c3]
    · rw [if_neg c3, if_neg c3, show (1 : Int32) = I 1 from rfl, I_add]
      exact ih (i + 1) n (by omega) (by omega)
theorem r_find {w : Nat} (hw : w < 1099511627776) (hf : 1000 ≤ f) (h : dR S q D u) : F_X9_kindOf sh f S q (J w) = some (match findN D.1 w (bK D.2) 0 with
    | none => -1
    | some j => I j) := r_find0 hw h (bK D.2) 0 f (by omega) (by have := h.2.1; omega)
/-- the stop thrown: its kind and its place -/
def thS (S : St) (w p : Int32) : St := uI (uI S 106 6 w) 106 7 p
def stp (S : St) (a : Nat × Nat) : Prop := sI S 106 6 = I a.1 ∧ sI S 106 7 = I a.2
theorem r_stopAt {w p : Int32} : F_X12_stopAt sh f S 94 w p = some (106, thS S w p) := rfl
theorem r_stop {w : Int32} (cx : ckX11 sh 106 = true) (h : rdR S q T e D k u) : F_X12_stop sh f S 94 w = some (106, thS S w (I (tS_ k))) := by
  have p : sI S 94 13 = I (tS_ k) := h.2.2.2.1.1
  simp only [F_X12_stop, r_stopAt, Option.bind_some, cx, not_true_eq_false, if_false, p]
theorem thS_fR {w p : Int32} : fR S (thS S w p) q := ⟨fun c a b _ => (by repeat' (first | exact Sm.rfl | (refine Sm.uI ?_ (by omega)) | (refine Sm.uA ?_ (by omega)) | (refine Sm.uJ ?_ (by omega)) | (refine Sm.uL ?_ (by omega)) | (refine Sm.uR ?_ (by omega)))), fun _ _ => rfl, fun _ _ => rfl, rfl⟩
theorem thS_stp {w p : Nat} : stp (thS S (I w) (I p)) (w, p) := ⟨rfl, rfl⟩
/-- what a reading method of the reference answers -/
def rrO {α : Type} (S : St) (q : Nat) (o : Option (α ⊕ (Nat × St))) (x : PR (Dr × TK)) (P : α → Dr × TK → Prop) (fr : α → St) : Prop := match x with
    | .inl a => ∃ S', o = some (.inr (106, S')) ∧ fR S S' q ∧ stp S' a
    | .inr a => ∃ y, o = some (.inl y) ∧ fR S (fr y) q ∧ P y a
end R70
