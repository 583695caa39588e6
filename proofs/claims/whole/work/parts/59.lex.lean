section L59
variable {sh : List Sh} {f : Nat} {S : St} {T : Nat → Int} {e s m : Nat}
/-- only the reference's reading fields have changed: at, sort, place, mark, number, word -/
def C9 (S S' : St) : Prop := (∀ k, k ≠ 94 → Sm S S' k) ∧ (∀ j, j < 11 ∨ 15 < j → sI S' 94 j = sI S 94 j) ∧ (∀ j, j ≠ 16 → sJ S' 94 j = sJ S 94 j) ∧ sR S' = sR S ∧ sA S' = sA S ∧ sL S' = sL S
theorem C9.refl : C9 S S := ⟨fun _ _ => Sm.rfl, fun _ _ => rfl, fun _ _ => rfl, rfl, rfl, rfl⟩
theorem C9.trans {S S' S'' : St} (h : C9 S S') (g : C9 S' S'') : C9 S S'' := ⟨fun k hk => (h.1 k hk).trans (g.1 k hk), fun j a => (g.2.1 j a).trans (h.2.1 j a), fun j a => (g.2.2.1 j a).trans (h.2.2.1 j a), g.2.2.2.1.trans h.2.2.2.1, g.2.2.2.2.1.trans h.2.2.2.2.1, g.2.2.2.2.2.trans h.2.2.2.2.2⟩
theorem C9.uI {j : Nat} {x : Int32} (hj : 11 ≤ j ∧ j ≤ 15) : C9 S (uI S 94 j x) := ⟨fun k hk => uI_o hk, fun i a => sI_ne _ _ _ (by omega), fun _ _ => rfl, rfl, rfl, rfl⟩
theorem C9.uJ {x : Int64} : C9 S (uJ S 94 16 x) := ⟨fun k hk => uJ_o hk, fun i a => rfl, fun j a => sJ_ne _ _ _ a, rfl, rfl, rfl⟩
def ub (z : Int) : Int := if z < 0 then z + 256 else z
theorem ub_all : ∀ n : Fin 256, I ((n.val : Int) - 128) &&& 255 = I (ub ((n.val : Int) - 128)) := by decide +kernel
theorem I_ub {z : Int} (hz : -128 ≤ z ∧ z ≤ 127) : I z &&& 255 = I (ub z) := by
  have h := ub_all ⟨(z + 128).toNat, by omega⟩
  have e : (((z + 128).toNat : Nat) : Int) - 128 = z := by omega
  simp only [e] at h
  exact h
theorem r_byte (e1 : sI S 94 10 = I e) (he : e ≤ 400) (hm : m < e) (ht : -128 ≤ T m ∧ T m ≤ 127) (hT : sA S 107 m = I (T m)) : F_X12_byteAt sh f S 94 (I m) = some (I (ub (T m))) := by
  have c2 : ¬ sI S 94 10 ≤ I m := by rw [e1, I_leN (by omega) (by omega)]; omega
  have c4 : ¬ (I m < 0 ∨ 400 ≤ (I m).toNatClampNeg) := by
    rw [I_clN (by omega), show (0 : Int32) = I 0 from rfl, I_lt (by omega) (by omega)]; omega
  rw [F_X12_byteAt, if_neg c2, if_neg c4, I_clN (by omega)]
  show some (sA S 107 m &&& 255) = _
  rw [hT, I_ub ht]
theorem r_byteE (e1 : sI S 94 10 = I e) (he : e ≤ 400) (hm : e ≤ m) (hm' : m ≤ 400) : F_X12_byteAt sh f S 94 (I m) = some (-1) := by
  have c2 : sI S 94 10 ≤ I m := by rw [e1, I_leN (by omega) (by omega)]; omega
  rw [F_X12_byteAt, if_pos c2]
theorem r_range {z lo hi : Int} (hz : -1 ≤ z ∧ z ≤ 255) (hl : 0 ≤ lo ∧ lo ≤ 127) (hh : 0 ≤ hi ∧ hi ≤ 127) : (if I z < I lo then some (0 : Int32) else if I hi < I z then some 0 else some 1) = some (if lo ≤ z ∧ z ≤ hi then 1 else 0) := by
  have q1 : (I z < I lo) = (z < lo) := I_lt (by omega) (by omega)
  have q2 : (I hi < I z) = (hi < z) := I_lt (by omega) (by omega)
  simp only [q1, q2]
  by_cases c1 : z < lo
  · rw [if_pos c1, if_neg (by omega)]
  · by_cases c2 : hi < z
    · rw [if_neg c1, if_pos c2, if_neg (by omega)]
    · rw [if_neg c1, if_neg c2, if_pos (by omega)]
theorem ub_bd {z : Int} (hz : -128 ≤ z ∧ z ≤ 127) : 0 ≤ ub z ∧ ub z ≤ 255 ∧ ∀ lo hi : Int, 0 ≤ lo → hi ≤ 127 → ((lo ≤ ub z ∧ ub z ≤ hi) = (lo ≤ z ∧ z ≤ hi)) := by
  unfold ub
  by_cases c : z < 0
  · rw [if_pos c]; exact ⟨by omega, by omega, fun lo hi a b => propext ⟨fun h => by omega, fun h => by omega⟩⟩
  · rw [if_neg c]; exact ⟨by omega, by omega, fun lo hi a b => rfl⟩
theorem r_small {z : Int} (hz : -128 ≤ z ∧ z ≤ 127) : F_X12_isLetter sh f S (I (ub z)) = some (if 97 ≤ z ∧ z ≤ 122 then 1 else 0) := by
  obtain ⟨a, b, c⟩ := ub_bd hz
  have := r_range (z := ub z) (lo := 97) (hi := 122) (by omega) (by omega) (by omega)
  simp only [c 97 122 (by omega) (by omega)] at this
  exact this
theorem r_digit {z : Int} (hz : -128 ≤ z ∧ z ≤ 127) : F_X12_isDigit sh f S (I (ub z)) = some (if 48 ≤ z ∧ z ≤ 57 then 1 else 0) := by
  obtain ⟨a, b, c⟩ := ub_bd hz
  have := r_range (z := ub z) (lo := 48) (hi := 57) (by omega) (by omega) (by omega)
  simp only [c 48 57 (by omega) (by omega)] at this
  exact this
theorem ub_eq {z v : Int} (hz : -128 ≤ z ∧ z ≤ 127) (hv : 0 ≤ v ∧ v ≤ 127) : (I (ub z) = I v) = (z = v) := by
  obtain ⟨a, b, c⟩ := ub_bd hz
  rw [I_eq (by omega) (by omega)]
  have := c v v (by omega) (by omega)
  exact propext ⟨fun h => by have := this.mp (by omega); omega, fun h => by have := this.mpr (by omega); omega⟩
theorem r_word (hT : ∀ i, -128 ≤ T i ∧ T i ≤ 127) (he : e ≤ 400) : ∀ (r m n : Nat) (S : St), e ≤ m + r → r < n → s ≤ m → m ≤ e → sI S 94 10 = I e → sI S 94 11 = I m → (∀ i, i < e → sA S 107 i = I (T i)) → (∀ i, s ≤ i → i < m → 97 ≤ T i ∧ T i ≤ 122) → (m - s ≤ 8 → sJ S 94 16 = J (wval T s (m - s))) → ∃ S', F_X12_next_L80 sh f 94 n S (I ((m - s : Nat) : Int)) = some S' ∧ C9 S S' ∧ sI S' 94 11 = I (wrun T e 97 122 r m) ∧ sI S' 94 13 = sI S 94 13 ∧ sI S' 94 14 = sI S 94 14 ∧ sI S' 94 12 = (if wrun T e 97 122 r m - s ≤ 8 then I 2 else sI S 94 12) ∧ (wrun T e 97 122 r m - s ≤ 8 → sJ S' 94 16 = J (wval T s (wrun T e 97 122 r m - s))) := by
  intro r
  induction r with
  | zero =>
    intro m n S h1 h2 h3 h4 h5 h6 h8 h9 h10
    obtain ⟨n, rfl⟩ : ∃ e, n = e + 1 := ⟨n - 1, by omega⟩
    have b := r_byteE (sh := sh) (f := f) h5 he (show e ≤ m by omega) (by omega)
    rw [F_X12_next_L80, h6, b, Option.bind_some, wrun]
    simp only [F_X12_isLetter]
    rw [if_pos (by decide), Option.bind_some, if_pos rfl]
    have q : ((8 : Int32) < I ((m - s : Nat) : Int)) = ¬ (m - s ≤ 8) := by
      rw [show (8 : Int32) = I 8 from rfl, I_lt (by omega) (by omega)]
      exact propext ⟨fun h => by omega, fun h => by omega⟩
    simp only [q, bnd]
    by_cases c3 : m - s ≤ 8
    · rw [if_neg (fun h => h c3), if_pos c3]
      exact ⟨_, rfl, C9.uI (by omega), h6, rfl, rfl, rfl, h10⟩
    · rw [if_pos c3, if_neg c3]
      exact ⟨_, rfl, C9.refl, h6, rfl, rfl, rfl, fun h => absurd h c3⟩
  | succ r ih =>
    intro m n S h1 h2 h3 h4 h5 h6 h8 h9 h10
    obtain ⟨n, rfl⟩ : ∃ e, n = e + 1 := ⟨n - 1, by omega⟩
    have q : ((8 : Int32) < I ((m - s : Nat) : Int)) = ¬ (m - s ≤ 8) := by
      rw [show (8 : Int32) = I 8 from rfl, I_lt (by omega) (by omega)]
      exact propext ⟨fun h => by omega, fun h => by omega⟩
    have done : ∀ o : Option St, o = (if ¬ (m - s ≤ 8) then some S else some (uI S 94 12 2)) → ∃ S', o = some S' ∧ C9 S S' ∧ sI S' 94 11 = I m ∧ sI S' 94 13 = sI S 94 13 ∧ sI S' 94 14 = sI S 94 14 ∧ sI S' 94 12 = (if m - s ≤ 8 then I 2 else sI S 94 12) ∧ (m - s ≤ 8 → sJ S' 94 16 = J (wval T s (m - s))) := by
      rintro o rfl
      by_cases c3 : m - s ≤ 8
      · rw [if_neg (fun h => h c3), if_pos c3]
        exact ⟨_, rfl, C9.uI (by omega), h6, rfl, rfl, rfl, h10⟩
      · rw [if_pos c3, if_neg c3]
        exact ⟨_, rfl, C9.refl, h6, rfl, rfl, rfl, fun h => absurd h c3⟩
    rw [wrun]
    by_cases cm : m < e
    · have b := r_byte (sh := sh) (f := f) h5 he cm (hT m) (h8 m cm)
      by_cases cl : 97 ≤ T m ∧ T m ≤ 122
      · rw [if_pos ⟨cm, cl⟩]
        have ubm : ub (T m) = T m := if_neg (by omega)
        by_cases c8 : 8 ≤ m - s
        · have q8 : (8 : Int32) ≤ I ((m - s : Nat) : Int) := by rw [show (8 : Int32) = I ((8 : Nat) : Int) from rfl, I_leN (by omega) (by omega)]; exact c8
          have step : F_X12_next_L80 sh f 94 (n + 1) S (I ((m - s : Nat) : Int)) = F_X12_next_L80 sh f 94 n (uI S 94 11 (I ((m + 1 : Nat) : Int))) (I ((m + 1 - s : Nat) : Int)) := by
            rw [F_X12_next_L80, h6, b, Option.bind_some, r_small (hT m), if_pos cl, Option.bind_some, if_neg i10, if_pos q8]
            simp only [bnd]
            rw [show (1 : Int32) = I 1 from rfl, I_add, I_add, show ((m - s : Nat) : Int) + 1 = ((m + 1 - s : Nat) : Int) by omega]
            rfl
          rw [step]
          obtain ⟨S', g1, g2, g3, g4, g5, g6, g7⟩ := ih (m + 1) n (uI S 94 11 (I ((m + 1 : Nat) : Int))) (by omega) (by omega) (by omega) (by omega) h5 (sI_self _ _ _ _) h8 (fun i i1 i2 => by
            by_cases d : i = m
            · rw [d]; exact cl
            · exact h9 i i1 (by omega)) (fun h => by omega)
          exact ⟨S', g1, (C9.uI (by omega)).trans g2, g3, g4, g5, g6, g7⟩
        · have q8 : ¬ (8 : Int32) ≤ I ((m - s : Nat) : Int) := by rw [show (8 : Int32) = I ((8 : Nat) : Int) from rfl, I_leN (by omega) (by omega)]; exact c8
          have step : F_X12_next_L80 sh f 94 (n + 1) S (I ((m - s : Nat) : Int)) = F_X12_next_L80 sh f 94 n (uI (uJ S 94 16 ((32 : Int64) * sJ S 94 16 + (I (T m) - 97 + 1).toInt64)) 94 11 (I ((m + 1 : Nat) : Int))) (I ((m + 1 - s : Nat) : Int)) := by
            have e' : sI (uJ S 94 16 ((32 : Int64) * sJ S 94 16 + (I (T m) - 97 + 1).toInt64)) 94 11 = I m := h6
            rw [F_X12_next_L80, h6, b, Option.bind_some, r_small (hT m), if_pos cl, Option.bind_some, if_neg i10, if_neg q8, Option.bind_some, ubm]
            simp only [bnd]
            rw [e', show (1 : Int32) = I 1 from rfl, I_add, I_add, show ((m - s : Nat) : Int) + 1 = ((m + 1 - s : Nat) : Int) by omega]
            rfl
          rw [step]
          obtain ⟨S', g1, g2, g3, g4, g5, g6, g7⟩ := ih (m + 1) n (uI (uJ S 94 16 ((32 : Int64) * sJ S 94 16 + (I (T m) - 97 + 1).toInt64)) 94 11 (I ((m + 1 : Nat) : Int))) (by omega) (by omega) (by omega) (by omega) h5 (sI_self _ _ _ _) h8 (fun i i1 i2 => by
            by_cases d : i = m
            · rw [d]; exact cl
            · exact h9 i i1 (by omega)) (fun h => by
            have sj : ∀ (x : Int64) (y : Int32), sJ (uI (uJ S 94 16 x) 94 11 y) 94 16 = x := fun x y => sJ_self _ _ _ _
            rw [sj, h10 (by omega), show (97 : Int32) = I 97 from rfl, show (1 : Int32) = I 1 from rfl, I_sub, I_add, J_I (by omega), show (32 : Int64) = J 32 from rfl, J_mul, J_add, show m + 1 - s = (m - s) + 1 by omega, wval, show s + (m - s) = m by omega]
            congr 1
            omega)
          exact ⟨S', g1, (C9.uJ.trans (C9.uI (by omega))).trans g2, g3, g4, g5, g6, g7⟩
      · rw [if_neg (fun h => cl h.2)]
        apply done
        rw [F_X12_next_L80, h6, b, Option.bind_some, r_small (hT m), if_neg cl, Option.bind_some, if_pos rfl]
        simp only [q, bnd]
    · rw [if_neg (fun h => cm h.1)]
      have b := r_byteE (sh := sh) (f := f) h5 he (show e ≤ m by omega) (by omega)
      apply done
      rw [F_X12_next_L80, h6, b, Option.bind_some]
      simp only [F_X12_isLetter]
      rw [if_pos (by decide), Option.bind_some, if_pos rfl]
      simp only [q, bnd]
theorem r_whole (hT : ∀ i, -128 ≤ T i ∧ T i ≤ 127) (he : e ≤ 400) : ∀ (r m n : Nat) (S : St), e ≤ m + r → r < n → s ≤ m → m ≤ e → sI S 94 10 = I e → sI S 94 11 = I m → (∀ i, i < e → sA S 107 i = I (T i)) → (∀ i, s ≤ i → i < m → 48 ≤ T i ∧ T i ≤ 57) → (m - s ≤ 3 → sI S 94 15 = I (nval T s (m - s))) → ∃ S', F_X12_next_L169 sh f 94 n S (I ((m - s : Nat) : Int)) = some S' ∧ C9 S S' ∧ sI S' 94 11 = I (wrun T e 48 57 r m) ∧ sI S' 94 13 = sI S 94 13 ∧ sI S' 94 14 = sI S 94 14 ∧ sI S' 94 12 = (if wrun T e 48 57 r m - s ≤ 3 then I 3 else sI S 94 12) ∧ (wrun T e 48 57 r m - s ≤ 3 → sI S' 94 15 = I (nval T s (wrun T e 48 57 r m - s))) := by
  intro r
  induction r with
  | zero =>
    intro m n S h1 h2 h3 h4 h5 h6 h8 h9 h10
    obtain ⟨n, rfl⟩ : ∃ e, n = e + 1 := ⟨n - 1, by omega⟩
    have b := r_byteE (sh := sh) (f := f) h5 he (show e ≤ m by omega) (by omega)
    rw [F_X12_next_L169, h6, b, Option.bind_some, wrun]
    simp only [F_X12_isDigit]
    rw [if_pos (by decide), Option.bind_some, if_pos rfl]
    have q : ((4 : Int32) ≤ I ((m - s : Nat) : Int)) = ¬ (m - s ≤ 3) := by
      rw [show (4 : Int32) = I 4 from rfl, I_le (by omega) (by omega)]
      exact propext ⟨fun h => by omega, fun h => by omega⟩
    simp only [q, bnd]
    by_cases c3 : m - s ≤ 3
    · rw [if_neg (fun h => h c3), if_pos c3]
      exact ⟨_, rfl, C9.uI (by omega), h6, rfl, rfl, rfl, h10⟩
    · rw [if_pos c3, if_neg c3]
      exact ⟨_, rfl, C9.refl, h6, rfl, rfl, rfl, fun h => absurd h c3⟩
  | succ r ih =>
    intro m n S h1 h2 h3 h4 h5 h6 h8 h9 h10
    obtain ⟨n, rfl⟩ : ∃ e, n = e + 1 := ⟨n - 1, by omega⟩
    have q : ((4 : Int32) ≤ I ((m - s : Nat) : Int)) = ¬ (m - s ≤ 3) := by
      rw [show (4 : Int32) = I 4 from rfl, I_le (by omega) (by omega)]
      exact propext ⟨fun h => by omega, fun h => by omega⟩
    have done : ∀ o : Option St, o = (if ¬ (m - s ≤ 3) then some S else some (uI S 94 12 3)) → ∃ S', o = some S' ∧ C9 S S' ∧ sI S' 94 11 = I m ∧ sI S' 94 13 = sI S 94 13 ∧ sI S' 94 14 = sI S 94 14 ∧ sI S' 94 12 = (if m - s ≤ 3 then I 3 else sI S 94 12) ∧ (m - s ≤ 3 → sI S' 94 15 = I (nval T s (m - s))) := by
      rintro o rfl
      by_cases c3 : m - s ≤ 3
      · rw [if_neg (fun h => h c3), if_pos c3]
        exact ⟨_, rfl, C9.uI (by omega), h6, rfl, rfl, rfl, h10⟩
      · rw [if_pos c3, if_neg c3]
        exact ⟨_, rfl, C9.refl, h6, rfl, rfl, rfl, fun h => absurd h c3⟩
    rw [wrun]
    by_cases cm : m < e
    · have b := r_byte (sh := sh) (f := f) h5 he cm (hT m) (h8 m cm)
      by_cases cl : 48 ≤ T m ∧ T m ≤ 57
      · rw [if_pos ⟨cm, cl⟩]
        have ubm : ub (T m) = T m := if_neg (by omega)
        by_cases c8 : 3 ≤ m - s
        · have q8 : (3 : Int32) ≤ I ((m - s : Nat) : Int) := by rw [show (3 : Int32) = I ((3 : Nat) : Int) from rfl, I_leN (by omega) (by omega)]; exact c8
          have step : F_X12_next_L169 sh f 94 (n + 1) S (I ((m - s : Nat) : Int)) = F_X12_next_L169 sh f 94 n (uI S 94 11 (I ((m + 1 : Nat) : Int))) (I ((m + 1 - s : Nat) : Int)) := by
            rw [F_X12_next_L169, h6, b, Option.bind_some, r_digit (hT m), if_pos cl, Option.bind_some, if_neg i10, if_pos q8]
            simp only [bnd]
            rw [show (1 : Int32) = I 1 from rfl, I_add, I_add, show ((m - s : Nat) : Int) + 1 = ((m + 1 - s : Nat) : Int) by omega]
            rfl
          rw [step]
          obtain ⟨S', g1, g2, g3, g4, g5, g6, g7⟩ := ih (m + 1) n (uI S 94 11 (I ((m + 1 : Nat) : Int))) (by omega) (by omega) (by omega) (by omega) h5 (sI_self _ _ _ _) h8 (fun i i1 i2 => by
            by_cases d : i = m
            · rw [d]; exact cl
            · exact h9 i i1 (by omega)) (fun h => by omega)
          exact ⟨S', g1, (C9.uI (by omega)).trans g2, g3, g4, g5, g6, g7⟩
        · have q8 : ¬ (3 : Int32) ≤ I ((m - s : Nat) : Int) := by rw [show (3 : Int32) = I ((3 : Nat) : Int) from rfl, I_leN (by omega) (by omega)]; exact c8
          have step : F_X12_next_L169 sh f 94 (n + 1) S (I ((m - s : Nat) : Int)) = F_X12_next_L169 sh f 94 n (uI (uI S 94 15 (10 * sI S 94 15 + I (T m) - 48)) 94 11 (I ((m + 1 : Nat) : Int))) (I ((m + 1 - s : Nat) : Int)) := by
            have e' : sI (uI S 94 15 (10 * sI S 94 15 + I (T m) - 48)) 94 11 = I m := h6
            rw [F_X12_next_L169, h6, b, Option.bind_some, r_digit (hT m), if_pos cl, Option.bind_some, if_neg i10, if_neg q8, Option.bind_some, ubm]
            simp only [bnd]
            rw [e', show (1 : Int32) = I 1 from rfl, I_add, I_add, show ((m - s : Nat) : Int) + 1 = ((m + 1 - s : Nat) : Int) by omega]
            rfl
          rw [step]
          obtain ⟨S', g1, g2, g3, g4, g5, g6, g7⟩ := ih (m + 1) n (uI (uI S 94 15 (10 * sI S 94 15 + I (T m) - 48)) 94 11 (I ((m + 1 : Nat) : Int))) (by omega) (by omega) (by omega) (by omega) h5 (sI_self _ _ _ _) h8 (fun i i1 i2 => by
            by_cases d : i = m
            · rw [d]; exact cl
            · exact h9 i i1 (by omega)) (fun h => by
            have sj : ∀ (x y : Int32), sI (uI (uI S 94 15 x) 94 11 y) 94 15 = x := fun x y => (sI_ne _ _ _ (by omega)).trans (sI_self _ _ _ _)
            rw [sj, h10 (by omega), show (10 : Int32) = I 10 from rfl, show (48 : Int32) = I 48 from rfl, I_mul, I_add, I_sub, show m + 1 - s = (m - s) + 1 by omega, nval, show s + (m - s) = m by omega]
            congr 1
            omega)
          exact ⟨S', g1, ((C9.uI (by omega)).trans (C9.uI (by omega))).trans g2, g3, g4, g5, g6, g7⟩
      · rw [if_neg (fun h => cl h.2)]
        apply done
        rw [F_X12_next_L169, h6, b, Option.bind_some, r_digit (hT m), if_neg cl, Option.bind_some, if_pos rfl]
        simp only [q, bnd]
    · rw [if_neg (fun h => cm h.1)]
      have b := r_byteE (sh := sh) (f := f) h5 he (show e ≤ m by omega) (by omega)
      apply done
      rw [F_X12_next_L169, h6, b, Option.bind_some]
      simp only [F_X12_isDigit]
      rw [if_pos (by decide), Option.bind_some, if_pos rfl]
      simp only [q, bnd]
/-- the reference's fields tell the token k -/
def rTk (S : St) (k : TK) : Prop := sI S 94 13 = I k.2.1 ∧ (k.1 ≠ 5 → sI S 94 11 = I k.2.2.1) ∧ sI S 94 12 = (if k.1 = 0 then I 1 else if k.1 = 1 then I 2 else if k.1 = 2 then I 3 else if k.1 = 3 ∨ k.1 = 4 then I 4 else I 0) ∧ (k.1 = 3 → sI S 94 14 = I 59) ∧ (k.1 = 4 → sI S 94 14 = I 45) ∧ (k.1 = 1 → sJ S 94 16 = J k.2.2.2.1) ∧ (k.1 = 2 → sI S 94 15 = I k.2.2.2.2)
theorem r_adv0 (hT : ∀ i, -128 ≤ T i ∧ T i ≤ 127) (he : e ≤ 400) (hf : 1000 ≤ f) : ∀ (r m n : Nat) (S : St), e ≤ m + r → r < n → m ≤ e → sI S 94 10 = I e → sI S 94 11 = I m → (∀ i, i < e → sA S 107 i = I (T i)) → ∃ S', F_X12_next_L0 sh f 94 n S = some S' ∧ C9 S S' ∧ rTk S' (tokAt T e (skp T e r m)) := by
  have main : ∀ (s n : Nat) (S : St), s ≤ e → sI S 94 10 = I e → sI S 94 11 = I s → (∀ i, i < e → sA S 107 i = I (T i)) → (s < e → T s ≠ 32) → ∃ S', F_X12_next_L0 sh f 94 (n + 1) S = some S' ∧ C9 S S' ∧ rTk S' (tokAt T e s) := by
    intro s n S hs h5 h6 h8 ns
    have k11 : sI (uI (uI (uI S 94 13 (sI S 94 11)) 94 12 0) 94 14 0) 94 11 = I s := h6
    have k10 : sI (uI (uI (uI S 94 13 (sI S 94 11)) 94 12 0) 94 14 0) 94 10 = I e := h5
    have k13 : sI (uI (uI (uI S 94 13 (sI S 94 11)) 94 12 0) 94 14 0) 94 13 = I s := h6
    have k12 : sI (uI (uI (uI S 94 13 (sI S 94 11)) 94 12 0) 94 14 0) 94 12 = I 0 := rfl
    have kA : ∀ i, i < e → sA (uI (uI (uI S 94 13 (sI S 94 11)) 94 12 0) 94 14 0) 107 i = I (T i) := h8
    have kC : C9 S (uI (uI (uI S 94 13 (sI S 94 11)) 94 12 0) 94 14 0) := ((C9.uI (by omega)).trans (C9.uI (by omega))).trans (C9.uI (by omega))
    rw [tokAt]
    by_cases c1 : e ≤ s
    · have b := r_byteE (sh := sh) (f := f) h5 he c1 (by omega)
      have b' := r_byteE (sh := sh) (f := f) k10 he c1 (by omega)
      rw [F_X12_next_L0, h6, b, Option.bind_some, if_neg (by decide)]
      simp only [bnd]
      rw [h6] at k11 k10 k13 k12 kA kC b'
      rw [k11, b', Option.bind_some, if_pos rfl, if_pos c1]
      exact ⟨_, rfl, kC.trans (C9.uI (by omega)), k13, fun _ => k11, rfl, fun h => by simp at h, fun h => by simp at h, fun h => by simp at h, fun h => by simp at h⟩
    · have cm : s < e := by omega
      have t := hT s
      have b := r_byte (sh := sh) (f := f) h5 he cm t (h8 s cm)
      have b' := r_byte (sh := sh) (f := f) k10 he cm t (kA s cm)
      have q32 : ¬ I (ub (T s)) = 32 := by rw [show (32 : Int32) = I 32 from rfl, ub_eq t (by omega)]; exact ns cm
      have qm : ¬ I (ub (T s)) = -1 := by
        have := ub_bd t
        rw [show (-1 : Int32) = I (-1) from rfl, I_eq (by omega) (by omega)]; omega
      rw [F_X12_next_L0, h6, b, Option.bind_some, if_neg q32]
      simp only [bnd]
      rw [h6] at k11 k10 k13 k12 kA kC b'
      rw [k11, b', Option.bind_some, if_neg qm, if_neg c1]
      generalize uI (uI (uI S 94 13 (I s)) 94 12 0) 94 14 0 = U at k11 k10 k13 k12 kA kC
      rw [r_small t, Option.bind_some]
      by_cases c2 : 97 ≤ T s ∧ T s ≤ 122
      · rw [if_pos c2, if_pos c2, if_neg i10]
        obtain ⟨S', g1, g2, g3, g4, g5, g6, g7⟩ := r_word (sh := sh) (f := f) (s := s) hT he e s f (uJ U 94 16 0) (by omega) (by omega) (by omega) hs k10 k11 kA (fun i i1 i2 => by omega) (fun _ => by
          rw [Nat.sub_self]
          exact sJ_self _ _ _ _)
        rw [Nat.sub_self] at g1
        refine ⟨S', g1, (kC.trans C9.uJ).trans g2, ?_⟩
        by_cases c3 : wrun T e 97 122 e s - s ≤ 8
        · rw [if_pos c3] at g6 ⊢
          exact ⟨g4.trans k13, fun _ => g3, g6, fun h => by simp at h, fun h => by simp at h, fun _ => g7 c3, fun h => by simp at h⟩
        · rw [if_neg c3] at g6 ⊢
          exact ⟨g4.trans k13, fun h => by simp at h, g6.trans k12, fun h => by simp at h, fun h => by simp at h, fun h => by simp at h, fun h => by simp at h⟩
      · rw [if_neg c2, if_neg c2, if_pos rfl, r_digit t, Option.bind_some]
        by_cases c3 : 48 ≤ T s ∧ T s ≤ 57
        · rw [if_pos c3, if_pos c3, if_neg i10]
          obtain ⟨S', g1, g2, g3, g4, g5, g6, g7⟩ := r_whole (sh := sh) (f := f) (s := s) hT he e s f (uI U 94 15 0) (by omega) (by omega) (by omega) hs k10 k11 kA (fun i i1 i2 => by omega) (fun _ => by
            rw [Nat.sub_self]
            exact sI_self _ _ _ _)
          rw [Nat.sub_self] at g1
          refine ⟨S', g1, (kC.trans (C9.uI (by omega))).trans g2, ?_⟩
          by_cases c4 : wrun T e 48 57 e s - s ≤ 3
          · rw [if_pos c4] at g6 ⊢
            exact ⟨g4.trans k13, fun _ => g3, g6, fun h => by simp at h, fun h => by simp at h, fun h => by simp at h, fun _ => g7 c4⟩
          · rw [if_neg c4] at g6 ⊢
            exact ⟨g4.trans k13, fun h => by simp at h, g6.trans k12, fun h => by simp at h, fun h => by simp at h, fun h => by simp at h, fun h => by simp at h⟩
        · have q59 : (I (ub (T s)) = 59) = (T s = 59) := ub_eq (v := 59) t (by omega)
          have q45 : (I (ub (T s)) = 45) = (T s = 45) := ub_eq (v := 45) t (by omega)
          rw [if_neg c3, if_neg c3, if_pos rfl]
          simp only [q59, q45]
          by_cases c4 : T s = 59
          · rw [if_pos c4, if_pos c4]
            have u : ub (T s) = 59 := by rw [ub, if_neg (by omega)]; exact c4
            refine ⟨_, rfl, ((kC.trans (C9.uI (by omega))).trans (C9.uI (by omega))).trans (C9.uI (by omega)), k13, fun _ => ?_, rfl, fun _ => ?_, fun h => by simp at h, fun h => by simp at h, fun h => by simp at h⟩
            · refine (sI_self _ _ _ _).trans ?_
              show sI U 94 11 + 1 = _
              rw [k11, show (1 : Int32) = I 1 from rfl, I_add]
              rfl
            · show I (ub (T s)) = I 59
              rw [u]
          · by_cases c5 : T s = 45
            · rw [if_neg c4, if_pos c5, if_neg c4, if_pos c5]
              have u : ub (T s) = 45 := by rw [ub, if_neg (by omega)]; exact c5
              refine ⟨_, rfl, ((kC.trans (C9.uI (by omega))).trans (C9.uI (by omega))).trans (C9.uI (by omega)), k13, fun _ => ?_, rfl, fun h => by simp at h, fun _ => ?_, fun h => by simp at h, fun h => by simp at h⟩
              · refine (sI_self _ _ _ _).trans ?_
                show sI U 94 11 + 1 = _
                rw [k11, show (1 : Int32) = I 1 from rfl, I_add]
                rfl
              · show I (ub (T s)) = I 45
                rw [u]
            · rw [if_neg c4, if_neg c5, if_neg c4, if_neg c5]
              exact ⟨_, rfl, kC, k13, fun h => by simp at h, k12, fun h => by simp at h, fun h => by simp at h, fun h => by simp at h, fun h => by simp at h⟩
  intro r
  induction r with
  | zero =>
    intro m n S h1 h2 h4 h5 h6 h8
    obtain ⟨n, rfl⟩ : ∃ e, n = e + 1 := ⟨n - 1, by omega⟩
    exact main m n S h4 h5 h6 h8 (fun h => by omega)
  | succ r ih =>
    intro m n S h1 h2 h4 h5 h6 h8
    obtain ⟨n, rfl⟩ : ∃ e, n = e + 1 := ⟨n - 1, by omega⟩
    rw [skp]
    by_cases c : m < e ∧ T m = 32
    · rw [if_pos c]
      have b := r_byte (sh := sh) (f := f) h5 he c.1 (hT m) (h8 m c.1)
      have q32 : I (ub (T m)) = 32 := by rw [show (32 : Int32) = I 32 from rfl, ub_eq (hT m) (by omega)]; exact c.2
      rw [F_X12_next_L0, h6, b, Option.bind_some, if_pos q32]
      simp only [bnd]
      rw [show (1 : Int32) = I 1 from rfl, I_add]
      obtain ⟨S', g1, g2, g3⟩ := ih (m + 1) n (uI S 94 11 (I ((m + 1 : Nat) : Int))) (by omega) (by omega) (by omega) h5 (sI_self _ _ _ _) h8
      exact ⟨S', g1, (C9.uI (by omega)).trans g2, g3⟩
    · rw [if_neg c]
      exact main m n S h4 h5 h6 h8 (fun h h' => c ⟨h, h'⟩)
theorem r_adv (hT : ∀ i, -128 ≤ T i ∧ T i ≤ 127) (he : e ≤ 400) (hf : 1000 ≤ f) (hm : m ≤ e) (h5 : sI S 94 10 = I e) (h6 : sI S 94 11 = I m) (h8 : ∀ i, i < e → sA S 107 i = I (T i)) : ∃ S', F_X12_next sh f S 94 = some S' ∧ C9 S S' ∧ rTk S' (tok T e m) := r_adv0 hT he hf e m f S (by omega) (by omega) hm h5 h6 h8
end L59
