section L58
variable {sh : List Sh} {f : Nat} {S : St} {T : Nat → Int} {e s m : Nat}
theorem c_whole (hT : ∀ i, -128 ≤ T i ∧ T i ≤ 127) (he : e ≤ 400) : ∀ (r m n : Nat) (S : St), e ≤ m + r → r < n → s ≤ m → m ≤ e → sI S 1 2 = I e → sI S 1 3 = I m → sI S 1 5 = I s → (∀ i, i < e → sA S 2 i = I (T i)) → (∀ i, s ≤ i → i < m → 48 ≤ T i ∧ T i ≤ 57) → (m - s ≤ 3 → sI S 1 7 = I (nval T s (m - s))) → ∃ S', F_X6_readWhole_L5 sh f 1 n S = some S' ∧ C1 S S' ∧ sI S' 1 3 = I (wrun T e 48 57 r m) ∧ sI S' 1 5 = I s ∧ sI S' 1 4 = (if wrun T e 48 57 r m - s ≤ 3 then I 2 else I 5) ∧ (wrun T e 48 57 r m - s ≤ 3 → sI S' 1 7 = I (nval T s (wrun T e 48 57 r m - s))) := by
  intro r
  induction r with
  | zero =>
    intro m n S h1 h2 h3 h4 h5 h6 h7 h8 h9 h10
    obtain ⟨n, rfl⟩ : ∃ e, n = e + 1 := ⟨n - 1, by omega⟩
    have c1 : sI S 1 2 ≤ sI S 1 3 := by rw [h5, h6, I_leN (by omega) (by omega)]; omega
    have c2 : (sI S 1 3 - sI S 1 5 ≤ 3) = (m - s ≤ 3) := by
      rw [h6, h7, I_sub, show (3 : Int32) = I 3 from rfl, I_le (by omega) (by omega)]
      exact propext ⟨fun h => by omega, fun h => by omega⟩
    rw [F_X6_readWhole_L5, if_pos c1, wrun]
    simp only [c2, bnd]
    by_cases c3 : m - s ≤ 3
    · rw [if_pos c3, if_pos c3]
      exact ⟨_, rfl, C1.uI (by omega), h6, h7, rfl, h10⟩
    · rw [if_neg c3, if_neg c3]
      exact ⟨_, rfl, C1.uI (by omega), h6, h7, rfl, fun h => absurd h c3⟩
  | succ r ih =>
    intro m n S h1 h2 h3 h4 h5 h6 h7 h8 h9 h10
    obtain ⟨n, rfl⟩ : ∃ e, n = e + 1 := ⟨n - 1, by omega⟩
    have c2 : (sI S 1 3 - sI S 1 5 ≤ 3) = (m - s ≤ 3) := by
      rw [h6, h7, I_sub, show (3 : Int32) = I 3 from rfl, I_le (by omega) (by omega)]
      exact propext ⟨fun h => by omega, fun h => by omega⟩
    have done : ∀ o : Option St, o = (if m - s ≤ 3 then some (uI S 1 4 2) else some (uI S 1 4 5)) → ∃ S', o = some S' ∧ C1 S S' ∧ sI S' 1 3 = I m ∧ sI S' 1 5 = I s ∧ sI S' 1 4 = (if m - s ≤ 3 then I 2 else I 5) ∧ (m - s ≤ 3 → sI S' 1 7 = I (nval T s (m - s))) := by
      rintro o rfl
      by_cases c3 : m - s ≤ 3
      · rw [if_pos c3, if_pos c3]
        exact ⟨_, rfl, C1.uI (by omega), h6, h7, rfl, h10⟩
      · rw [if_neg c3, if_neg c3]
        exact ⟨_, rfl, C1.uI (by omega), h6, h7, rfl, fun h => absurd h c3⟩
    rw [wrun]
    by_cases cm : m < e
    · have c1 : ¬ sI S 1 2 ≤ sI S 1 3 := by rw [h5, h6, I_leN (by omega) (by omega)]; omega
      have b := c_byte (sh := sh) (f := f) h5 he cm (h8 m cm)
      by_cases cl : 48 ≤ T m ∧ T m ≤ 57
      · rw [if_pos ⟨cm, cl⟩]
        have step : F_X6_readWhole_L5 sh f 1 (n + 1) S = F_X6_readWhole_L5 sh f 1 n (uI (uI S 1 7 (sI S 1 7 * 10 + I (T m) - 48)) 1 3 (I ((m + 1 : Nat) : Int))) := by
          rw [F_X6_readWhole_L5, if_neg c1]
          simp only [h6, b, Option.bind_some, c_digit (hT m), if_pos cl, if_neg i10, bnd]
          have e' : sI (uI S 1 7 (sI S 1 7 * 10 + I (T m) - 48)) 1 3 = I m := h6
          rw [e', show (1 : Int32) = I 1 from rfl, I_add]
          rfl
        rw [step]
        obtain ⟨S', g1, g2, g3, g4, g5, g6⟩ := ih (m + 1) n (uI (uI S 1 7 (sI S 1 7 * 10 + I (T m) - 48)) 1 3 (I ((m + 1 : Nat) : Int))) (by omega) (by omega) (by omega) (by omega) h5 (sI_self _ _ _ _) h7 h8 (fun i i1 i2 => by
          by_cases d : i = m
          · rw [d]; exact cl
          · exact h9 i i1 (by omega)) (fun h => by
          have sj : ∀ (x y : Int32), sI (uI (uI S 1 7 x) 1 3 y) 1 7 = x := fun x y => (sI_ne _ _ _ (by omega)).trans (sI_self _ _ _ _)
          rw [sj, h10 (by omega), show (10 : Int32) = I 10 from rfl, show (48 : Int32) = I 48 from rfl, I_mul, I_add, I_sub, show m + 1 - s = (m - s) + 1 by omega, nval, show s + (m - s) = m by omega]
          congr 1
          omega)
        exact ⟨S', g1, ((C1.uI (by omega)).trans (C1.uI (by omega))).trans g2, g3, g4, g5, g6⟩
      · rw [if_neg (fun h => cl h.2)]
        apply done
        rw [F_X6_readWhole_L5, if_neg c1]
        rw [h6] at c2
        simp only [h6, b, Option.bind_some, c_digit (hT m), if_neg cl, if_true, bnd, c2]
    · rw [if_neg (fun h => cm h.1)]
      have c1 : sI S 1 2 ≤ sI S 1 3 := by rw [h5, h6, I_leN (by omega) (by omega)]; omega
      apply done
      rw [F_X6_readWhole_L5, if_pos c1]
      simp only [c2, bnd]
/-- the reader's fields tell the token k -/
def cTk (S : St) (k : TK) : Prop := sI S 1 4 = I k.1 ∧ sI S 1 5 = I k.2.1 ∧ (k.1 ≠ 5 → sI S 1 3 = I k.2.2.1) ∧ (k.1 = 1 → sJ S 1 6 = J k.2.2.2.1) ∧ (k.1 = 2 → sI S 1 7 = I k.2.2.2.2)
theorem c_tok (hT : ∀ i, -128 ≤ T i ∧ T i ≤ 127) (he : e ≤ 400) (hf : 1000 ≤ f) (hs : s ≤ e) (h5 : sI S 1 2 = I e) (h6 : sI S 1 3 = I s) (h8 : ∀ i, i < e → sA S 2 i = I (T i)) : ∃ S', F_X6_advance_L37 sh f 1 S = some S' ∧ C1 S S' ∧ cTk S' (tokAt T e s) := by
  have k5 : sI (uI S 1 5 (sI S 1 3)) 1 5 = I s := (sI_self _ _ _ _).trans h6
  have k3 : sI (uI S 1 5 (sI S 1 3)) 1 3 = I s := h6
  have k2 : sI (uI S 1 5 (sI S 1 3)) 1 2 = I e := h5
  have kA : ∀ i, i < e → sA (uI S 1 5 (sI S 1 3)) 2 i = I (T i) := h8
  have kC : C1 S (uI S 1 5 (sI S 1 3)) := C1.uI (by omega)
  rw [F_X6_advance_L37]
  simp only [bnd]
  generalize uI S 1 5 (sI S 1 3) = U at k5 k3 k2 kA kC
  rw [tokAt]
  by_cases c1 : e ≤ s
  · have d1 : ¬ sI U 1 3 < sI U 1 2 := by rw [k3, k2, I_lt (by omega) (by omega)]; omega
    rw [if_pos c1, if_neg d1]
    exact ⟨_, rfl, kC.trans (C1.uI (by omega)), rfl, k5, fun _ => k3, fun h => by simp at h, fun h => by simp at h⟩
  · have d1 : sI U 1 3 < sI U 1 2 := by rw [k3, k2, I_lt (by omega) (by omega)]; omega
    have b := c_byte (sh := sh) (f := f) k2 he (show s < e by omega) (kA s (by omega))
    have t := hT s
    rw [if_neg c1, if_pos d1, k3, b, Option.bind_some, c_small t, Option.bind_some]
    by_cases c2 : 97 ≤ T s ∧ T s ≤ 122
    · rw [if_pos c2, if_pos c2, if_neg i10, F_X6_readWord]
      simp only [bnd]
      obtain ⟨S', g1, g2, g3, g4, g5, g6⟩ := c_word (sh := sh) (f := f) (s := s) hT he e s f (uJ U 1 6 0) (by omega) (by omega) (by omega) hs k2 k3 k5 kA (fun i i1 i2 => by omega) (fun _ => by
        rw [Nat.sub_self]
        exact sJ_self _ _ _ _)
      rw [g1, Option.bind_some]
      refine ⟨S', rfl, (kC.trans C1.uJ).trans g2, ?_⟩
      by_cases c3 : wrun T e 97 122 e s - s ≤ 8
      · rw [if_pos c3] at g5 ⊢
        exact ⟨g5, g4, fun _ => g3, fun _ => g6 c3, fun h => by simp at h⟩
      · rw [if_neg c3] at g5 ⊢
        exact ⟨g5, g4, fun h => by simp at h, fun h => by simp at h, fun h => by simp at h⟩
    · rw [if_neg c2, if_neg c2, if_pos rfl, c_digit t, Option.bind_some]
      by_cases c3 : 48 ≤ T s ∧ T s ≤ 57
      · rw [if_pos c3, if_pos c3, if_neg i10, F_X6_readWhole]
        simp only [bnd]
        obtain ⟨S', g1, g2, g3, g4, g5, g6⟩ := c_whole (sh := sh) (f := f) (s := s) hT he e s f (uI U 1 7 0) (by omega) (by omega) (by omega) hs k2 k3 k5 kA (fun i i1 i2 => by omega) (fun _ => by
          rw [Nat.sub_self]
          exact sI_self _ _ _ _)
        rw [g1, Option.bind_some]
        refine ⟨S', rfl, (kC.trans (C1.uI (by omega))).trans g2, ?_⟩
        by_cases c4 : wrun T e 48 57 e s - s ≤ 3
        · rw [if_pos c4] at g5 ⊢
          exact ⟨g5, g4, fun _ => g3, fun h => by simp at h, fun _ => g6 c4⟩
        · rw [if_neg c4] at g5 ⊢
          exact ⟨g5, g4, fun h => by simp at h, fun h => by simp at h, fun h => by simp at h⟩
      · have q59 : (I (T s) = 59) = (T s = 59) := by rw [show (59 : Int32) = I 59 from rfl, I_eq (by omega) (by omega)]
        have q45 : (I (T s) = 45) = (T s = 45) := by rw [show (45 : Int32) = I 45 from rfl, I_eq (by omega) (by omega)]
        have nx : ∀ x : Int32, sI (uI U 1 4 x) 1 3 + 1 = I ((s + 1 : Nat) : Int) := fun x => by
          rw [show sI (uI U 1 4 x) 1 3 = I s from k3, show (1 : Int32) = I 1 from rfl, I_add]
          rfl
        rw [if_neg c3, if_neg c3, if_pos rfl]
        simp only [q59, q45, nx]
        by_cases c4 : T s = 59
        · rw [if_pos c4, if_pos c4]
          exact ⟨_, rfl, (kC.trans (C1.uI (by omega))).trans (C1.uI (by omega)), rfl, k5, fun _ => sI_self _ _ _ _, fun h => by simp at h, fun h => by simp at h⟩
        · by_cases c5 : T s = 45
          · rw [if_neg c4, if_pos c5, if_neg c4, if_pos c5]
            exact ⟨_, rfl, (kC.trans (C1.uI (by omega))).trans (C1.uI (by omega)), rfl, k5, fun _ => sI_self _ _ _ _, fun h => by simp at h, fun h => by simp at h⟩
          · rw [if_neg c4, if_neg c5, if_neg c4, if_neg c5]
            exact ⟨_, rfl, (kC.trans (C1.uI (by omega))).trans (C1.uI (by omega)), rfl, k5, fun h => by simp at h, fun h => by simp at h, fun h => by simp at h⟩
theorem c_adv0 (hT : ∀ i, -128 ≤ T i ∧ T i ≤ 127) (he : e ≤ 400) (hf : 1000 ≤ f) : ∀ (r m n : Nat) (S : St), e ≤ m + r → r < n → m ≤ e → sI S 1 2 = I e → sI S 1 3 = I m → (∀ i, i < e → sA S 2 i = I (T i)) → ∃ S', F_X6_advance_L0 sh f 1 n S = some S' ∧ C1 S S' ∧ cTk S' (tokAt T e (skp T e r m)) := by
  intro r
  induction r with
  | zero =>
    intro m n S h1 h2 h4 h5 h6 h8
    obtain ⟨n, rfl⟩ : ∃ e, n = e + 1 := ⟨n - 1, by omega⟩
    have c1 : sI S 1 2 ≤ sI S 1 3 := by rw [h5, h6, I_leN (by omega) (by omega)]; omega
    rw [F_X6_advance_L0, if_pos c1, skp]
    exact c_tok hT he hf h4 h5 h6 h8
  | succ r ih =>
    intro m n S h1 h2 h4 h5 h6 h8
    obtain ⟨n, rfl⟩ : ∃ e, n = e + 1 := ⟨n - 1, by omega⟩
    rw [F_X6_advance_L0, skp]
    by_cases cm : m < e
    · have c1 : ¬ sI S 1 2 ≤ sI S 1 3 := by rw [h5, h6, I_leN (by omega) (by omega)]; omega
      have b := c_byte (sh := sh) (f := f) h5 he cm (h8 m cm)
      have t := hT m
      have q : (I (T m) = 32) = (T m = 32) := by rw [show (32 : Int32) = I 32 from rfl, I_eq (by omega) (by omega)]
      rw [if_neg c1, h6, b, Option.bind_some]
      simp only [q, bnd]
      by_cases c2 : T m = 32
      · rw [if_pos c2, if_pos ⟨cm, c2⟩, show (1 : Int32) = I 1 from rfl, I_add]
        obtain ⟨S', g1, g2, g3⟩ := ih (m + 1) n (uI S 1 3 (I ((m + 1 : Nat) : Int))) (by omega) (by omega) (by omega) h5 (sI_self _ _ _ _) h8
        exact ⟨S', g1, (C1.uI (by omega)).trans g2, g3⟩
      · rw [if_neg c2, if_neg (fun h => c2 h.2)]
        exact c_tok hT he hf h4 h5 h6 h8
    · have c1 : sI S 1 2 ≤ sI S 1 3 := by rw [h5, h6, I_leN (by omega) (by omega)]; omega
      rw [if_pos c1, if_neg (fun h => cm h.1)]
      exact c_tok hT he hf h4 h5 h6 h8
theorem c_adv (hT : ∀ i, -128 ≤ T i ∧ T i ≤ 127) (he : e ≤ 400) (hf : 1000 ≤ f) (hm : m ≤ e) (h5 : sI S 1 2 = I e) (h6 : sI S 1 3 = I m) (h8 : ∀ i, i < e → sA S 2 i = I (T i)) : ∃ S', F_X6_advance sh f S 1 = some S' ∧ C1 S S' ∧ cTk S' (tok T e m) := c_adv0 hT he hf e m f S (by omega) (by omega) hm h5 h6 h8
end L58
