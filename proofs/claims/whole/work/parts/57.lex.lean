/-! THE LEXER as a function: T the tape's bytes, e the text's end. A token: its sort (0 the end, 1 a word, 2 a number, 3 a semicolon, 4 a dash, 5 none), where it begins, where the next begins, the word, the number. -/
def skp (T : Nat → Int) (e : Nat) : Nat → Nat → Nat
  | 0, m => m
  | r + 1, m => if m < e ∧ T m = 32 then skp T e r (m + 1) else m
def wrun (T : Nat → Int) (e : Nat) (lo hi : Int) : Nat → Nat → Nat
  | 0, m => m
  | r + 1, m => if m < e ∧ lo ≤ T m ∧ T m ≤ hi then wrun T e lo hi r (m + 1) else m
def wval (T : Nat → Int) (s : Nat) : Nat → Nat
  | 0 => 0
  | c + 1 => 32 * wval T s c + (T (s + c) - 96).toNat
def nval (T : Nat → Int) (s : Nat) : Nat → Nat
  | 0 => 0
  | c + 1 => 10 * nval T s c + (T (s + c) - 48).toNat
abbrev TK : Type := Nat × Nat × Nat × Nat × Nat
def tokAt (T : Nat → Int) (e s : Nat) : TK :=
  if e ≤ s then (0, s, s, 0, 0)
  else if 97 ≤ T s ∧ T s ≤ 122 then (if wrun T e 97 122 e s - s ≤ 8 then (1, s, wrun T e 97 122 e s, wval T s (wrun T e 97 122 e s - s), 0) else (5, s, s, 0, 0))
  else if 48 ≤ T s ∧ T s ≤ 57 then (if wrun T e 48 57 e s - s ≤ 3 then (2, s, wrun T e 48 57 e s, 0, nval T s (wrun T e 48 57 e s - s)) else (5, s, s, 0, 0))
  else if T s = 59 then (3, s, s + 1, 0, 0) else if T s = 45 then (4, s, s + 1, 0, 0) else (5, s, s, 0, 0)
def tok (T : Nat → Int) (e m : Nat) : TK := tokAt T e (skp T e e m)
theorem wrun_le {T : Nat → Int} {e : Nat} {lo hi : Int} : ∀ (r m : Nat), m ≤ e → m ≤ wrun T e lo hi r m ∧ wrun T e lo hi r m ≤ e ∧ ∀ i, m ≤ i → i < wrun T e lo hi r m → lo ≤ T i ∧ T i ≤ hi
  | 0, m, h => ⟨Nat.le_refl _, h, fun i a b => absurd (Nat.lt_of_le_of_lt a b) (Nat.lt_irrefl _)⟩
  | r + 1, m, h => by
    rw [wrun]
    by_cases c : m < e ∧ lo ≤ T m ∧ T m ≤ hi
    · rw [if_pos c]
      obtain ⟨a1, a2, a3⟩ := wrun_le (T := T) (lo := lo) (hi := hi) r (m + 1) c.1
      refine ⟨by omega, a2, fun i i1 i2 => ?_⟩
      by_cases d : i = m
      · rw [d]; exact c.2
      · exact a3 i (by omega) i2
    · rw [if_neg c]
      exact ⟨Nat.le_refl _, h, fun i a b => absurd (Nat.lt_of_le_of_lt a b) (Nat.lt_irrefl _)⟩
theorem skp_le {T : Nat → Int} {e : Nat} : ∀ (r m : Nat), m ≤ e → m ≤ skp T e r m ∧ skp T e r m ≤ e
  | 0, m, h => ⟨Nat.le_refl _, h⟩
  | r + 1, m, h => by
    rw [skp]
    by_cases c : m < e ∧ T m = 32
    · rw [if_pos c]
      obtain ⟨a1, a2⟩ := skp_le (T := T) r (m + 1) c.1
      exact ⟨by omega, a2⟩
    · rw [if_neg c]
      exact ⟨Nat.le_refl _, h⟩
theorem wval_lt {T : Nat → Int} {s : Nat} : ∀ (c : Nat), (∀ i, s ≤ i → i < s + c → 97 ≤ T i ∧ T i ≤ 122) → wval T s c < 32 ^ c
  | 0, _ => by rw [wval, Nat.pow_zero]; exact Nat.one_pos
  | c + 1, h => by
    have a := wval_lt c (fun i i1 i2 => h i i1 (by omega))
    have b := h (s + c) (by omega) (by omega)
    rw [wval, Nat.pow_succ]
    omega
theorem nval_lt {T : Nat → Int} {s : Nat} : ∀ (c : Nat), (∀ i, s ≤ i → i < s + c → 48 ≤ T i ∧ T i ≤ 57) → nval T s c < 10 ^ c
  | 0, _ => by rw [nval, Nat.pow_zero]; exact Nat.one_pos
  | c + 1, h => by
    have a := nval_lt c (fun i i1 i2 => h i i1 (by omega))
    have b := h (s + c) (by omega) (by omega)
    rw [nval, Nat.pow_succ]
    omega
theorem J_nat {n : Nat} (h : n < 9223372036854775808) : (J n).toBitVec.toNat = n := by
  have h1 : (J n).toInt = n := J_toInt (by omega)
  have h2 : (J n).toInt = (J n).toBitVec.toInt := rfl
  rw [h2] at h1
  have h3 := BitVec.toInt_eq_toNat_cond (J n).toBitVec
  have h4 := (J n).toBitVec.isLt
  rw [h1] at h3
  by_cases c : 2 * (J n).toBitVec.toNat < 2 ^ 64
  · rw [if_pos c] at h3; omega
  · rw [if_neg c] at h3; omega
theorem J_so {a c : Nat} (ha : a < 34359738368) (hc : c < 32) : (J a) <<< ((5 : Int32).toInt64 &&& 63) ||| J c = J ((32 * a + c : Nat) : Int) := by
  apply Int64.toBitVec_inj.mp
  apply BitVec.eq_of_toNat_eq
  have e5 : ((5 : Int32).toInt64 &&& 63) = (5 : Int64) := by decide
  rw [J_nat (by omega), e5, Int64.toBitVec_or, BitVec.toNat_or, J_nat (by omega)]
  have h : ((J a) <<< (5 : Int64)).toBitVec.toNat = a <<< 5 := by
    rw [Int64.toBitVec_shiftLeft]
    show ((J a).toBitVec <<< 5).toNat = _
    rw [BitVec.toNat_shiftLeft, J_nat (by omega), Nat.shiftLeft_eq, Nat.mod_eq_of_lt (by omega)]
  rw [h, ← Nat.shiftLeft_add_eq_or_of_lt (by omega : c < 2 ^ 5), Nat.shiftLeft_eq]
  omega
section L57
variable {sh : List Sh} {f : Nat} {S : St} {T : Nat → Int} {e s m : Nat}
/-- only the reader's own fields have changed: next, token, start, word, value -/
def C1 (S S' : St) : Prop := (∀ k, k ≠ 1 → Sm S S' k) ∧ (∀ j, j ≠ 3 → j ≠ 4 → j ≠ 5 → j ≠ 7 → sI S' 1 j = sI S 1 j) ∧ sR S' = sR S ∧ sA S' = sA S ∧ sL S' = sL S
theorem C1.refl : C1 S S := ⟨fun _ _ => Sm.rfl, fun _ _ _ _ _ => rfl, rfl, rfl, rfl⟩
theorem C1.trans {S S' S'' : St} (h : C1 S S') (g : C1 S' S'') : C1 S S'' := ⟨fun k hk => (h.1 k hk).trans (g.1 k hk), fun j a b c d => (g.2.1 j a b c d).trans (h.2.1 j a b c d), g.2.2.1.trans h.2.2.1, g.2.2.2.1.trans h.2.2.2.1, g.2.2.2.2.trans h.2.2.2.2⟩
theorem C1.uI {j : Nat} {x : Int32} (hj : j = 3 ∨ j = 4 ∨ j = 5 ∨ j = 7) : C1 S (uI S 1 j x) := ⟨fun k hk => uI_o hk, fun i a b c d => sI_ne _ _ _ (by omega), rfl, rfl, rfl⟩
theorem C1.uJ {j : Nat} {x : Int64} : C1 S (uJ S 1 j x) := ⟨fun k hk => uJ_o hk, fun i a b c d => rfl, rfl, rfl, rfl⟩
theorem c_byte (e1 : sI S 1 2 = I e) (he : e ≤ 400) (hm : m < e) (hT : sA S 2 m = I (T m)) : F_X6_byteAt sh f S 1 (I m) = some (I (T m)) := by
  have c1 : ¬ I m < 0 := by rw [show (0 : Int32) = I 0 from rfl, I_lt (by omega) (by omega)]; omega
  have c2 : ¬ sI S 1 2 ≤ I m := by rw [e1, I_leN (by omega) (by omega)]; omega
  have c3 : ¬ (400 : Int32) ≤ I m := by rw [show (400 : Int32) = I ((400 : Nat) : Int) from rfl, I_leN (by omega) (by omega)]; omega
  have c4 : ¬ (I m < 0 ∨ 400 ≤ (I m).toNatClampNeg) := by rw [I_clN (by omega)]; rintro (c | c); exact c1 c; omega
  rw [F_X6_byteAt, if_neg c1, if_neg c2, if_neg c3, if_neg c4, I_clN (by omega)]
  exact congrArg some hT
theorem c_range {z lo hi : Int} (hz : -128 ≤ z ∧ z ≤ 127) (hl : 0 ≤ lo ∧ lo ≤ 127) (hh : 0 ≤ hi ∧ hi ≤ 127) : (if I z < I lo then some (0 : Int32) else if I hi < I z then some 0 else some 1) = some (if lo ≤ z ∧ z ≤ hi then 1 else 0) := by
  have q1 : (I z < I lo) = (z < lo) := I_lt (by omega) (by omega)
  have q2 : (I hi < I z) = (hi < z) := I_lt (by omega) (by omega)
  simp only [q1, q2]
  by_cases c1 : z < lo
  · rw [if_pos c1, if_neg (by omega)]
  · by_cases c2 : hi < z
    · rw [if_neg c1, if_pos c2, if_neg (by omega)]
    · rw [if_neg c1, if_neg c2, if_pos (by omega)]
theorem c_small {z : Int} (hz : -128 ≤ z ∧ z ≤ 127) : F_X6_isSmall sh f S (I z) = some (if 97 ≤ z ∧ z ≤ 122 then 1 else 0) := c_range (lo := 97) (hi := 122) hz (by omega) (by omega)
theorem c_digit {z : Int} (hz : -128 ≤ z ∧ z ≤ 127) : F_X6_isDigit sh f S (I z) = some (if 48 ≤ z ∧ z ≤ 57 then 1 else 0) := c_range (lo := 48) (hi := 57) hz (by omega) (by omega)
theorem c_word (hT : ∀ i, -128 ≤ T i ∧ T i ≤ 127) (he : e ≤ 400) : ∀ (r m n : Nat) (S : St), e ≤ m + r → r < n → s ≤ m → m ≤ e → sI S 1 2 = I e → sI S 1 3 = I m → sI S 1 5 = I s → (∀ i, i < e → sA S 2 i = I (T i)) → (∀ i, s ≤ i → i < m → 97 ≤ T i ∧ T i ≤ 122) → (m - s ≤ 8 → sJ S 1 6 = J (wval T s (m - s))) → ∃ S', F_X6_readWord_L5 sh f 1 n S = some S' ∧ C1 S S' ∧ sI S' 1 3 = I (wrun T e 97 122 r m) ∧ sI S' 1 5 = I s ∧ sI S' 1 4 = (if wrun T e 97 122 r m - s ≤ 8 then I 1 else I 5) ∧ (wrun T e 97 122 r m - s ≤ 8 → sJ S' 1 6 = J (wval T s (wrun T e 97 122 r m - s))) := by
  intro r
  induction r with
  | zero =>
    intro m n S h1 h2 h3 h4 h5 h6 h7 h8 h9 h10
    obtain ⟨n, rfl⟩ : ∃ e, n = e + 1 := ⟨n - 1, by omega⟩
    have c1 : sI S 1 2 ≤ sI S 1 3 := by rw [h5, h6, I_leN (by omega) (by omega)]; omega
    have c2 : (sI S 1 3 - sI S 1 5 ≤ 8) = (m - s ≤ 8) := by
      rw [h6, h7, I_sub, show (8 : Int32) = I 8 from rfl, I_le (by omega) (by omega)]
      exact propext ⟨fun h => by omega, fun h => by omega⟩
    rw [F_X6_readWord_L5, if_pos c1, wrun]
    simp only [c2, bnd]
    by_cases c3 : m - s ≤ 8
    · rw [if_pos c3, if_pos c3]
      exact ⟨_, rfl, C1.uI (by omega), h6, h7, rfl, h10⟩
    · rw [if_neg c3, if_neg c3]
      exact ⟨_, rfl, C1.uI (by omega), h6, h7, rfl, fun h => absurd h c3⟩
  | succ r ih =>
    intro m n S h1 h2 h3 h4 h5 h6 h7 h8 h9 h10
    obtain ⟨n, rfl⟩ : ∃ e, n = e + 1 := ⟨n - 1, by omega⟩
    have c2 : (sI S 1 3 - sI S 1 5 ≤ 8) = (m - s ≤ 8) := by
      rw [h6, h7, I_sub, show (8 : Int32) = I 8 from rfl, I_le (by omega) (by omega)]
      exact propext ⟨fun h => by omega, fun h => by omega⟩
    have done : ∀ o : Option St, o = (if m - s ≤ 8 then some (uI S 1 4 1) else some (uI S 1 4 5)) → ∃ S', o = some S' ∧ C1 S S' ∧ sI S' 1 3 = I m ∧ sI S' 1 5 = I s ∧ sI S' 1 4 = (if m - s ≤ 8 then I 1 else I 5) ∧ (m - s ≤ 8 → sJ S' 1 6 = J (wval T s (m - s))) := by
      rintro o rfl
      by_cases c3 : m - s ≤ 8
      · rw [if_pos c3, if_pos c3]
        exact ⟨_, rfl, C1.uI (by omega), h6, h7, rfl, h10⟩
      · rw [if_neg c3, if_neg c3]
        exact ⟨_, rfl, C1.uI (by omega), h6, h7, rfl, fun h => absurd h c3⟩
    rw [wrun]
    by_cases cm : m < e
    · have c1 : ¬ sI S 1 2 ≤ sI S 1 3 := by rw [h5, h6, I_leN (by omega) (by omega)]; omega
      have b := c_byte (sh := sh) (f := f) h5 he cm (h8 m cm)
      by_cases cl : 97 ≤ T m ∧ T m ≤ 122
      · rw [if_pos ⟨cm, cl⟩]
        have step : F_X6_readWord_L5 sh f 1 (n + 1) S = F_X6_readWord_L5 sh f 1 n (uI (uJ S 1 6 ((sJ S 1 6) <<< ((5 : Int32).toInt64 &&& 63) ||| (I (T m) - 97 + 1).toInt64)) 1 3 (I ((m + 1 : Nat) : Int))) := by
          rw [F_X6_readWord_L5, if_neg c1]
          simp only [h6, b, Option.bind_some, c_small (hT m), if_pos cl, if_neg i10, bnd]
          have e' : sI (uJ S 1 6 ((sJ S 1 6) <<< ((5 : Int32).toInt64 &&& 63) ||| (I (T m) - 97 + 1).toInt64)) 1 3 = I m := h6
          rw [e', show (1 : Int32) = I 1 from rfl, I_add]
          rfl
        rw [step]
        obtain ⟨S', g1, g2, g3, g4, g5, g6⟩ := ih (m + 1) n (uI (uJ S 1 6 ((sJ S 1 6) <<< ((5 : Int32).toInt64 &&& 63) ||| (I (T m) - 97 + 1).toInt64)) 1 3 (I ((m + 1 : Nat) : Int))) (by omega) (by omega) (by omega) (by omega) h5 (sI_self _ _ _ _) h7 h8 (fun i i1 i2 => by
          by_cases d : i = m
          · rw [d]; exact cl
          · exact h9 i i1 (by omega)) (fun h => by
          have sj : ∀ (x : Int64) (y : Int32), sJ (uI (uJ S 1 6 x) 1 3 y) 1 6 = x := fun x y => sJ_self _ _ _ _
          rw [sj, h10 (by omega), show (97 : Int32) = I 97 from rfl, show (1 : Int32) = I 1 from rfl, I_sub, I_add, J_I (by omega)]
          have w8 := wval_lt (T := T) (s := s) (m - s) (fun i i1 i2 => h9 i i1 (by omega))
          have p7 : 32 ^ (m - s) ≤ 32 ^ 7 := Nat.pow_le_pow_right (by omega) (by omega)
          have q : (T m - 97 + 1 : Int) = (((T m - 96).toNat : Nat) : Int) := by omega
          rw [q, J_so (by omega) (by omega), show m + 1 - s = (m - s) + 1 by omega, wval, show s + (m - s) = m by omega])
        exact ⟨S', g1, ((C1.uJ).trans (C1.uI (by omega))).trans g2, g3, g4, g5, g6⟩
      · rw [if_neg (fun h => cl h.2)]
        apply done
        rw [F_X6_readWord_L5, if_neg c1]
        rw [h6] at c2
        simp only [h6, b, Option.bind_some, c_small (hT m), if_neg cl, if_true, bnd, c2]
    · rw [if_neg (fun h => cm h.1)]
      have c1 : sI S 1 2 ≤ sI S 1 3 := by rw [h5, h6, I_leN (by omega) (by omega)]; omega
      apply done
      rw [F_X6_readWord_L5, if_pos c1]
      simp only [c2, bnd]
end L57
