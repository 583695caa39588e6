section B80
variable {sh : List Sh} {f : Nat} {S : St} {T : Nat → Int} {e b d : Nat} {D0 : Dr}
/-- the developers' object after a text without a fault -/
def bC (S : St) (b d : Nat) : St := uI (uA (uA (uA (uI (uI (uR (uR (uI S 1 1 0) 0 10 (some d)) 1 10 (some b)) 44 2 0) 0 14 0) 59 0 1) 59 1 1) 59 2 1) 0 16 0
theorem c_bk87 {x : Int32} (hf : 1000 ≤ f) : F_X8_book_L87 sh f 0 x f S 0 = (sR S 0 10).bind fun b2 => if ckX0 sh b2 = true then some (sI (uI (uA (uA (uA S 59 0 1) 59 1 1) 59 2 1) 0 16 0) b2 9, uI (uA (uA (uA S 59 0 1) 59 1 1) 59 2 1) 0 16 0) else none := by
  have key : ∀ g, F_X8_book_L87 sh f 0 x (g + 4) S 0 = (sR S 0 10).bind fun b2 => if ckX0 sh b2 = true then some (sI (uI (uA (uA (uA S 59 0 1) 59 1 1) 59 2 1) 0 16 0) b2 9, uI (uA (uA (uA S 59 0 1) 59 1 1) 59 2 1) 0 16 0) else none := by
    intro g
    rw [F_X8_book_L87, if_neg (by decide), if_neg (by decide)]
    simp only [bnd]
    rw [F_X8_book_L87, if_neg (by decide), if_neg (by decide)]
    simp only [bnd]
    rw [F_X8_book_L87, if_neg (by decide), if_neg (by decide)]
    simp only [bnd]
    rw [F_X8_book_L87, if_pos (by decide)]
    rfl
  have := key (f - 4)
  rw [show f - 4 + 4 = f by omega] at this
  exact this
theorem c_book (hT : ∀ i, -128 ≤ T i ∧ T i ≤ 127) {m : Nat} (hf : 1000 ≤ f) (hm : m ≤ 400) (he : e ≤ m) (hb : b = 3 ∨ b = 61) (hd : d = 3 ∨ d = 61) (so : shOk sh) (h1 : sI S 1 1 = I m) (h2 : ∀ i, i < e → sA S 2 i = I (T i)) (p1 : sR S 0 10 = some b) (p2 : sR S 1 10 = some d) : (match pText T e D0 with
    | .inl x => ∃ S1, F_X8_book sh f S 0 (I e) = some (-1, uI (uI S1 1 1 0) 0 16 4) ∧ fD S S1 d ∧ flt S1 x
    | .inr D' => ∃ S1, F_X8_book sh f S 0 (I e) = some (I (bK D'.2), bC S1 b d) ∧ fD S S1 d ∧ dC S1 d D' (bK D'.2) ∧ dOk D' ∧ bK D'.2 ≠ 0 ∧ sI S1 1 8 = I 0) := by
  have cb := sh0 so hb
  have cd := sh0 so hd
  obtain ⟨v, S1, g1, g2, g3⟩ := c_read (sh := sh) (D0 := D0) hT (by omega) hf (by omega) cd h2 p2
  have c1 : ¬ I (e : Int) < 0 := by rw [show (0 : Int32) = I 0 from rfl, I_lt (by omega) (by omega)]; omega
  have c2 : I (e : Int) ≤ sI S 1 1 := by rw [h1, I_leN (by omega) (by omega)]; exact he
  have q1 : sR (uI S1 1 1 0) 0 10 = some b := (congrFun (congrFun g2.2.2 0) 10).trans p1
  have q2 : sR (uI S1 1 1 0) 1 10 = some d := (congrFun (congrFun g2.2.2 1) 10).trans p2
  cases hp : pText T e D0 with
  | inl x =>
    rw [hp] at g3
    obtain ⟨rfl, g4⟩ := g3
    refine ⟨S1, ?_, g2, g4⟩
    simp only [F_X8_book, if_neg c1, Nat.zero_add, if_pos c2, g1, Option.bind_some, bnd, if_true, F_X8_refused]
  | inr D' =>
    rw [hp] at g3
    obtain ⟨rfl, g4, g5, g6, g7⟩ := g3
    refine ⟨S1, ?_, g2, g4, g5, g6, g7⟩
    simp only [F_X8_book, if_neg c1, Nat.zero_add, if_pos c2, g1, Option.bind_some, bnd, if_neg i10, q1, if_pos cb, q2, if_pos cd, F_X1_clear]
    rw [c_bk87 hf]
    have q3 : sR (uI (uI (uR (uR (uI S1 1 1 0) 0 10 (some d)) 1 10 (some b)) 44 2 0) 0 14 0) 0 10 = some d := rfl
    rw [q3, Option.bind_some, if_pos cd]
    have n9 : sI (uI (uA (uA (uA (uI (uI (uR (uR (uI S1 1 1 0) 0 10 (some d)) 1 10 (some b)) 44 2 0) 0 14 0) 59 0 1) 59 1 1) 59 2 1) 0 16 0) d 9 = I (bK D'.2) := by
      rw [sI_row _ _ _ (by omega)]
      show sI (uI (uI (uI S1 1 1 0) 44 2 0) 0 14 0) d 9 = _
      rw [sI_row _ _ _ (by omega), sI_row _ _ _ (by omega), sI_row _ _ _ (by omega)]
      exact g4.1.1
    rw [n9]
    rfl
end B80
