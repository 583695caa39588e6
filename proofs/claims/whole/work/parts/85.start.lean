/-- no book yet -/
def bk00 : Bk := ((0, 0), fun _ => 0, fun _ => 0, fun _ => 0, fun _ => 0, fun _ => 0, fun _ => 0, fun _ => 0, fun _ _ => 0)
theorem bk00_ok : bkOk bk00 := ⟨⟨Nat.zero_le _, fun i hi => absurd hi (Nat.not_lt_zero _)⟩, Nat.zero_le _, fun _ => rfl, fun r hr => absurd hr (Nat.not_lt_zero _)⟩
theorem inv0_start : inv0 SH S0 (61, 3, 71, 23, 88, 91) none 95 (0, bk00, 0, fun _ => 0, fun _ => 0, fun _ => 1) := by
  refine ⟨⟨[], (List.append_nil _).symm⟩, ⟨rfl, rfl, rfl, rfl, rfl, rfl⟩, ⟨Or.inr ⟨rfl, rfl⟩, Or.inl ⟨rfl, rfl⟩, Or.inl ⟨rfl, rfl⟩⟩, ⟨rfl, rfl, ckSH.2.2.2.2.2.2, Or.inl rfl, fun z hz => by cases hz⟩, ⟨Nat.zero_le _, rfl, rfl, rfl, fun i => ?_⟩, ⟨rfl, rfl, rfl, rfl⟩, ⟨bk00_ok, ⟨rfl, rfl, fun i hi => absurd hi (Nat.not_lt_zero _), fun r hr => absurd hr (Nat.not_lt_zero _)⟩, fun _ => rfl, fun z hz => by cases hz⟩, ⟨Nat.zero_le _, rfl, rfl, fun z => absurd rfl z, fun i hi => absurd hi (Nat.not_lt_zero _)⟩, fun i hi => ?_, Or.inl ⟨rfl, rfl, rfl, fun i hi => ?_⟩, ⟨rfl, Or.inl rfl⟩⟩
  · have : sA S0 2 i = I 0 := rfl
    rw [this]
    decide
  · have h : i = 0 ∨ i = 1 ∨ i = 2 := by omega
    rcases h with rfl | rfl | rfl <;> exact ⟨(by omega : (-99 : Int) ≤ 1), (by omega : (1 : Int) ≤ 99), rfl, rfl⟩
  · have h : i = 0 ∨ i = 1 ∨ i = 2 ∨ i = 3 := by omega
    rcases h with rfl | rfl | rfl | rfl <;> rfl
