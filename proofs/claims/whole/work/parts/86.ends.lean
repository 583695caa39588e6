section E86
variable {sh : List Sh} {f : Nat} {S : St} {B : Bk} {b z t l n : Nat} {ek : Nat → Nat} {en : Nat → Int}
def evE (B : Bk) (ek : Nat → Nat) (n : Nat) : Int32 := if sumM B ek n = 0 ∧ sumH B ek n % 2 = 0 then 1 else 0
theorem c_bal (hf : 1000 ≤ f) (ok : bkOk B) (h : bkC S b B) (hn : n ≤ 6) (s2 : sI S t 2 = I n) (hk : ∀ i, i < n → ek i < bK B ∧ sA S (t + 1) i = I (ek i)) : F_X1_isBalanced sh f S t b = some (evE B ek n) := by
  have ev := c_even (sh := sh) (f := f) (p1 := t + 1) (n1 := 6) (a := 0) (n := n) (g := ek) (u := bK B) (B := B) (S := S) (b := b) hf h ok.1.1 (Nat.le_refl _) (fun i hi => by have := ok.1.2 i hi; exact ⟨this.2.2.2.2.2.1, this.2.2.2.2.2.2.1⟩) (fun i hi => (ok.1.2 i hi).2.2.2.2.2.2.2.2.1) (by omega) (by omega) (fun j hj => by rw [Nat.zero_add]; exact hk j hj)
  have ev' : F_X0_areEven sh f S b (t + 1) 6 0 (I n) = some (evE B ek n) := ev
  unfold F_X1_isBalanced
  rw [s2, ev', Option.bind_some, if_neg]
  unfold evE
  by_cases c : sumM B ek n = 0 ∧ sumH B ek n % 2 = 0
  · rw [if_pos c]; decide
  · rw [if_neg c]; decide
theorem r_drawn0 (ok : bkOk B) (p : sR S 94 5 = some z) (ck : ckX9 sh z = true) (h : bkR S z B) (hn : n ≤ 6) (s2 : sI S l 2 = I n) (hk : ∀ i, i < n → ek i < bK B ∧ sA S (l + 1) i = I (ek i)) : ∀ (r j nf : Nat), j + r = n → r < nf → F_X12_isDrawn_L7 sh f S 94 l nf (I (sumM B ek j)) (I (sumH B ek j)) (I j) = some (evE B ek n) := by
  have k8 := ok.1.1
  intro r
  induction r with
  | zero =>
    intro j nf h1 h2
    obtain ⟨nf, rfl⟩ : ∃ e, nf = e + 1 := ⟨nf - 1, by omega⟩
    have : j = n := by omega
    subst this
    have bd := sumM_bd (B := B) (u := bK B) (g := ek) (fun i hi => by have := ok.1.2 i hi; exact ⟨this.2.2.2.2.2.1, this.2.2.2.2.2.2.1⟩) j (fun i hi => (hk i hi).1)
    have bh := sumH_le (B := B) (g := ek) j
    have c1 : I (j : Int) ≤ I j := by rw [I_leN (by omega) (by omega)]; omega
    have q1 : (I (sumM B ek j) = 0) = (sumM B ek j = 0) := by rw [show (0 : Int32) = I 0 from rfl, I_eq (by omega) (by omega)]
    have q2 : (I ((sumH B ek j : Nat) : Int) - I ((sumH B ek j : Nat) : Int) / 2 * 2 = 0) = (sumH B ek j % 2 = 0) := by
      rw [show (2 : Int32) = I 2 from rfl, show (0 : Int32) = I 0 from rfl, I_div (by omega) (by omega), I_mul, I_sub, I_eq (by omega) (by omega)]
      exact propext ⟨fun h => by omega, fun h => by omega⟩
    rw [F_X12_isDrawn_L7]
    unfold evE
    simp only [s2, if_pos c1, q1, q2]
    by_cases c3 : sumM B ek j = 0
    · by_cases c4 : sumH B ek j % 2 = 0
      · simp only [if_pos c3, if_pos c4, if_pos (And.intro c3 c4)]
      · simp only [if_pos c3, if_neg c4, if_neg (fun h : sumM B ek j = 0 ∧ sumH B ek j % 2 = 0 => c4 h.2)]
    · simp only [if_neg c3, if_neg (fun h : sumM B ek j = 0 ∧ sumH B ek j % 2 = 0 => c3 h.1)]
  | succ r ih =>
    intro j nf h1 h2
    obtain ⟨nf, rfl⟩ : ∃ e, nf = e + 1 := ⟨nf - 1, by omega⟩
    obtain ⟨a1, a2⟩ := hk j (by omega)
    have c1 : ¬ I (n : Int) ≤ I j := by rw [I_leN (by omega) (by omega)]; omega
    have cl : (I (j : Int)).toNatClampNeg = j := I_clN (by omega)
    have c2 : ¬ (I (j : Int) < 0 ∨ 6 ≤ j) := by
      rw [show (0 : Int32) = I 0 from rfl, I_lt (by omega) (by omega)]; omega
    have dl : (I (ek j : Int)).toNatClampNeg = ek j := I_clN (by omega)
    have d1 : ¬ (I (ek j : Int) < 0 ∨ 8 ≤ ek j) := by
      rw [show (0 : Int32) = I 0 from rfl, I_lt (by omega) (by omega)]; omega
    have mk := (h.2.2.1 (ek j) a1).2.2.1
    have sk := (h.2.2.1 (ek j) a1).2.2.2.1
    have s2' := (ok.1.2 (ek j) a1).2.2.2.2.2.2.2.2.1
    have qs : (I (bS B (ek j) : Int) = 2) = (bS B (ek j) = 2) := I_eqN (b := 2) (by omega) (by omega)
    have nx : I (j : Int) + 1 = I ((j + 1 : Nat) : Int) := by rw [show (1 : Int32) = I 1 from rfl, I_add]; rfl
    have sm : I (sumM B ek j) + I (bM B (ek j)) = I (sumM B ek (j + 1)) := by rw [I_add]; rfl
    rw [F_X12_isDrawn_L7]
    simp only [s2, if_neg c1, p, Option.bind_some, if_pos ck, cl, if_neg c2, a2, dl, if_neg d1, mk, sk, qs, bnd, sm, nx]
    by_cases ch : bS B (ek j) = 2
    · have sh1 : I (sumH B ek j : Int) + 1 = I (sumH B ek (j + 1) : Int) := by
        rw [show (1 : Int32) = I 1 from rfl, I_add, sumH, if_pos ch]
        rfl
      simp only [if_pos ch, sh1]
      exact ih (j + 1) nf (by omega) (by omega)
    · have sh0 : I (sumH B ek j : Int) + 0 = I (sumH B ek (j + 1) : Int) := by
        rw [show (0 : Int32) = I 0 from rfl, I_add, sumH, if_neg ch]
        rfl
      simp only [if_neg ch, sh0]
      exact ih (j + 1) nf (by omega) (by omega)
theorem r_drawn (hf : 1000 ≤ f) (ok : bkOk B) (p : sR S 94 5 = some z) (ck : ckX9 sh z = true) (h : bkR S z B) (hn : n ≤ 6) (s2 : sI S l 2 = I n) (hk : ∀ i, i < n → ek i < bK B ∧ sA S (l + 1) i = I (ek i)) : F_X12_isDrawn sh f S 94 l = some (evE B ek n) := r_drawn0 ok p ck h hn s2 hk n 0 f (by omega) (by omega)
theorem r_copies (hf : 1000 ≤ f) (hl : l = 118 ∨ l = 125) (hn : n ≤ 6) (s17 : sI S 94 17 = I n) (hk : ∀ i, i < n → sA S 108 i = I (ek i) ∧ sA S 109 i = I (en i)) : ∃ S', F_X12_copiesEnds sh f S 94 l = some S' ∧ sI S' l 2 = I n ∧ (∀ i, i < n → sA S' (l + 1) i = I (ek i) ∧ sA S' (l + 2) i = I (en i)) ∧ (∀ c, c ≠ l → c ≠ l + 1 → c ≠ l + 2 → Sm S S' c) ∧ (∀ j, j ≠ 2 → sI S' l j = sI S l j) := by
  have key : ∀ (r j nf : Nat) (S : St), j + r = n → r < nf → sI S 94 17 = I n → (∀ i, i < n → sA S 108 i = I (ek i) ∧ sA S 109 i = I (en i)) → (∀ i, i < j → sA S (l + 1) i = I (ek i) ∧ sA S (l + 2) i = I (en i)) → ∃ S', F_X12_copiesEnds_L10 sh f 94 l nf S (I j) = some S' ∧ (∀ i, i < n → sA S' (l + 1) i = I (ek i) ∧ sA S' (l + 2) i = I (en i)) ∧ (∀ c, c ≠ l + 1 → c ≠ l + 2 → Sm S S' c) := by
    intro r
    induction r with
    | zero =>
      intro j nf S h1 h2 h3 h4 h5
      obtain ⟨nf, rfl⟩ : ∃ e, nf = e + 1 := ⟨nf - 1, by omega⟩
      have : j = n := by omega
      subst this
      exact ⟨S, by rw [F_X12_copiesEnds_L10, if_pos (by rw [h3, I_leN (by omega) (by omega)]; omega)], h5, fun c _ _ => Sm.rfl⟩
    | succ r ih =>
      intro j nf S h1 h2 h3 h4 h5
      obtain ⟨nf, rfl⟩ : ∃ e, nf = e + 1 := ⟨nf - 1, by omega⟩
      obtain ⟨a1, a2⟩ := h4 j (by omega)
      have c1 : ¬ sI S 94 17 ≤ I j := by rw [h3, I_leN (by omega) (by omega)]; omega
      have cl : (I (j : Int)).toNatClampNeg = j := I_clN (by omega)
      have c2 : ¬ (I (j : Int) < 0 ∨ 6 ≤ j) := by
        rw [show (0 : Int32) = I 0 from rfl, I_lt (by omega) (by omega)]; omega
      have nx : I (j : Int) + 1 = I ((j + 1 : Nat) : Int) := by rw [show (1 : Int32) = I 1 from rfl, I_add]; rfl
      have s109 : sA (uA S (l + 1) j (I (ek j))) 109 j = I (en j) := by rw [sA_row _ _ _ (by omega)]; exact a2
      obtain ⟨S', g1, g2, g3⟩ := ih (j + 1) nf (uA (uA S (l + 1) j (I (ek j))) (l + 2) j (I (en j))) (by omega) (by omega) h3 (fun i hi => by
        rw [sA_row _ _ _ (by omega), sA_row _ _ _ (by omega), sA_row _ _ _ (by omega), sA_row _ _ _ (by omega)]; exact h4 i hi) (fun i hi => by
        have e1 : sA (uA (uA S (l + 1) j (I (ek j))) (l + 2) j (I (en j))) (l + 1) i = up1 (sA S (l + 1)) j (I (ek j)) i := by rw [sA_row _ _ _ (by omega), sA_uA, if_pos rfl]
        have e2 : sA (uA (uA S (l + 1) j (I (ek j))) (l + 2) j (I (en j))) (l + 2) i = up1 (sA S (l + 2)) j (I (en j)) i := by rw [sA_uA, if_pos rfl, sA_row _ _ _ (by omega)]
        rw [e1, e2, up1_if, up1_if]
        by_cases d : i = j
        · rw [if_pos d, if_pos d, d]; exact ⟨rfl, rfl⟩
        · rw [if_neg d, if_neg d]; exact h5 i (by omega))
      refine ⟨S', ?_, g2, fun c x y => Sm.trans (by repeat' (first | exact Sm.rfl | (refine Sm.uI ?_ (by omega)) | (refine Sm.uA ?_ (by omega)) | (refine Sm.uJ ?_ (by omega)) | (refine Sm.uL ?_ (by omega)) | (refine Sm.uR ?_ (by omega)))) (g3 c x y)⟩
      rw [F_X12_copiesEnds_L10, if_neg c1]
      simp only [cl, if_neg c2, bnd, a1, s109, nx]
      exact g1
  obtain ⟨S', g1, g2, g3⟩ := key n 0 f (uI S l 2 (I n)) (by omega) (by omega) ((congrFun (sI_row _ _ _ (by omega)) 17).trans s17) hk (fun i hi => by omega)
  refine ⟨S', ?_, ((g3 l (by omega) (by omega)).I 2).trans (sI_self _ _ _ _), g2, fun c x y v => Sm.trans (uI_o x) (g3 c y v), fun j hj => ((g3 l (by omega) (by omega)).I j).trans (sI_ne _ _ _ hj)⟩
  unfold F_X12_copiesEnds
  simp only [bnd, s17]
  exact g1
end E86
