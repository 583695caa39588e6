/-! THE REFERENCE lays ends and points. -/
section Z9z
variable {sh : List Sh} {f : Nat} {Y : Ly} {p1 p2 n2 q o : Nat}
/-- the first m legs laid by the reference -/
def rLA (S T : St) (Y : Ly) (m : Nat) : Prop := (∀ i, i < m → sA T 132 i = I (yK Y i) ∧ sA T 133 i = I (yD Y i)) ∧ sI T 94 25 = I (m : Nat) ∧ (∀ j, j ≠ 25 → j ≠ 26 → sI T 94 j = sI S 94 j) ∧ (∀ x, sR T x = sR S x ∧ sJ T x = sJ S x) ∧ ∀ x, x ≠ 94 → x ≠ 132 → x ≠ 133 → x ≠ 135 → Sm S T x
theorem rLA_put {S T U : St} {m : Nat} (h : rLA S T Y m) (u0 : sI U 94 25 = I ((m + 1 : Nat) : Int)) (u1 : ∀ j, j ≠ 25 → sI U 94 j = sI T 94 j) (u2 : ∀ i, sA U 132 i = up1 (sA T 132) m (I (yK Y m)) i) (u3 : ∀ i, sA U 133 i = up1 (sA T 133) m (I (yD Y m)) i) (u4 : ∀ x, sR U x = sR T x ∧ sJ U x = sJ T x) (u5 : ∀ x, x ≠ 94 → x ≠ 132 → x ≠ 133 → Sm T U x) : rLA S U Y (m + 1) := by
  obtain ⟨a1, a2, a3, a4, a5⟩ := h
  refine ⟨fun i hi => ?_, u0, fun j h1 h2 => (u1 j h1).trans (a3 j h1 h2), fun x => ⟨(u4 x).1.trans (a4 x).1, (u4 x).2.trans (a4 x).2⟩, fun x h1 h2 h3 h4 => (a5 x h1 h2 h3 h4).trans (u5 x h1 h2 h3)⟩
  rw [u2, u3, up1_if, up1_if]
  by_cases c : i = m
  · rw [if_pos c, if_pos c, c]
    exact ⟨rfl, rfl⟩
  · rw [if_neg c, if_neg c]
    exact a1 i (by omega)
end Z9z
