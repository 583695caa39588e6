def bnd {α β : Type} (a : α) (f : α → β) : β := f a
theorem bnd_o {α β : Type} {a : α} {f : α → β} {r : β} (h : bnd a f = r) : f a = r := h
theorem bd {α β : Type} {o : Option α} {f : α → Option β} {r : β} (h : o.bind f = some r) : ∃ a, o = some a ∧ f a = some r := Option.bind_eq_some_iff.mp h
theorem g_out {p : Prop} [Decidable p] {α : Type} {x : Option α} {r : α} (h : (if p then none else x) = some r) : ¬ p ∧ x = some r := by
  by_cases c : p
  · rw [if_pos c] at h; cases h
  · rw [if_neg c] at h; exact ⟨c, h⟩
theorem g_in {p : Prop} [Decidable p] {α : Type} {x : Option α} {r : α} (h : (if p then x else none) = some r) : p ∧ x = some r := by
  by_cases c : p
  · rw [if_pos c] at h; exact ⟨c, h⟩
  · rw [if_neg c] at h; cases h
theorem nb_n {x : Int32} (h : ¬ ¬ (x = 0 ∨ x = 1)) : narrow .boolean (.int x) = .int x := by
  rcases Decidable.not_not.mp h with rfl | rfl <;> decide
theorem nb_f {x : Int32} (h : ¬ ¬ (x = 0 ∨ x = 1)) : fits .boolean (.int x) = true := by
  rcases Decidable.not_not.mp h with rfl | rfl <;> decide
theorem ts_ne {x v : Int32} {n : Int} (h : ¬ x = v) (hv : v.toInt = n) : x.toInt ≠ n := fun e => h (Int32.toInt_inj.mp (e.trans hv.symm))
theorem v_all_n {lv : List (Nat × Value)} : v_all lv [] := trivial
theorem v_all_c {lv t : List (Nat × Value)} {q : Nat × Value} (h1 : v_get lv q.1 = some q.2) (h2 : v_all lv t) : v_all lv (q :: t) := ⟨h1, h2⟩
theorem V_lv' {l : Launch} {s0 : State} {D : va_G} {d mc ms : Nat} {M : MI} {Post : Option Value → AH → Prop} {PX : Nat → String → AH → Prop} {pc : Nat} {lv lv' : List (Nat × Value)} {st : List Value} {h : AH} (k : V l s0 D d mc ms M Post PX pc lv' st h) (hs : v_all lv lv') : V l s0 D d mc ms M Post PX pc lv st h := V_lv hs k
abbrev shX0 : Sh := .inr (0, [(2, 1), (2, 2), (2, 3), (2, 4), (2, 5), (2, 6), (2, 7), (2, 8), (2, 9), (0, 0), (0, 0)])
abbrev isX0 (sh : List Sh) (t : Nat) : Prop := sh[t]? = some shX0 ∧ sh[t + 1]? = some (.inl (.long, 8)) ∧ sh[t + 2]? = some (.inl (.int, 8)) ∧ sh[t + 3]? = some (.inl (.int, 8)) ∧ sh[t + 4]? = some (.inl (.int, 8)) ∧ sh[t + 5]? = some (.inl (.int, 8)) ∧ sh[t + 6]? = some (.inl (.int, 4)) ∧ sh[t + 7]? = some (.inl (.int, 4)) ∧ sh[t + 8]? = some (.inl (.int, 4)) ∧ sh[t + 9]? = some (.inl (.int, 16))
abbrev shX1 : Sh := .inr (1, [(2, 1), (2, 2), (0, 0)])
abbrev isX1 (sh : List Sh) (t : Nat) : Prop := sh[t]? = some shX1 ∧ sh[t + 1]? = some (.inl (.int, 6)) ∧ sh[t + 2]? = some (.inl (.int, 6))
abbrev shX2 : Sh := .inr (2, [(2, 1), (2, 2), (2, 3), (0, 0), (1, 0), (1, 0)])
abbrev isX2 (sh : List Sh) (t : Nat) : Prop := sh[t]? = some shX2 ∧ sh[t + 1]? = some (.inl (.int, 25)) ∧ sh[t + 2]? = some (.inl (.long, 12)) ∧ sh[t + 3]? = some (.inl (.long, 12))
abbrev shX3 : Sh := .inr (3, [(2, 1), (2, 2), (2, 3), (2, 4), (2, 5), (2, 6), (2, 7), (2, 8), (2, 9), (2, 10), (2, 11), (2, 12), (2, 13), (2, 14), (2, 15), (2, 16), (0, 0), (0, 0), (0, 0), (0, 0)])
abbrev isX3 (sh : List Sh) (t : Nat) : Prop := sh[t]? = some shX3 ∧ sh[t + 1]? = some (.inl (.long, 200)) ∧ sh[t + 2]? = some (.inl (.int, 200)) ∧ sh[t + 3]? = some (.inl (.int, 200)) ∧ sh[t + 4]? = some (.inl (.int, 200)) ∧ sh[t + 5]? = some (.inl (.int, 200)) ∧ sh[t + 6]? = some (.inl (.int, 400)) ∧ sh[t + 7]? = some (.inl (.int, 400)) ∧ sh[t + 8]? = some (.inl (.int, 20)) ∧ sh[t + 9]? = some (.inl (.int, 20)) ∧ sh[t + 10]? = some (.inl (.int, 20)) ∧ sh[t + 11]? = some (.inl (.int, 20)) ∧ sh[t + 12]? = some (.inl (.int, 20)) ∧ sh[t + 13]? = some (.inl (.int, 20)) ∧ sh[t + 14]? = some (.inl (.int, 20)) ∧ sh[t + 15]? = some (.inl (.int, 20)) ∧ sh[t + 16]? = some (.inl (.boolean, 20))
abbrev shX4 : Sh := .inr (4, [(2, 1), (2, 2), (2, 3), (2, 4), (2, 5), (2, 6), (2, 7), (0, 0), (0, 0), (0, 0), (0, 0), (0, 0), (0, 0)])
abbrev isX4 (sh : List Sh) (t : Nat) : Prop := sh[t]? = some shX4 ∧ sh[t + 1]? = some (.inl (.int, 12)) ∧ sh[t + 2]? = some (.inl (.int, 12)) ∧ sh[t + 3]? = some (.inl (.int, 12)) ∧ sh[t + 4]? = some (.inl (.int, 12)) ∧ sh[t + 5]? = some (.inl (.int, 12)) ∧ sh[t + 6]? = some (.inl (.int, 3)) ∧ sh[t + 7]? = some (.inl (.int, 3))
abbrev shX7 : Sh := .inr (7, [(2, 1), (2, 2), (0, 0), (0, 0), (1, 0), (1, 0)])
abbrev isX7 (sh : List Sh) (t : Nat) : Prop := sh[t]? = some shX7 ∧ sh[t + 1]? = some (.inl (.long, 4)) ∧ sh[t + 2]? = some (.inl (.long, 4))
abbrev shX9 : Sh := .inr (9, [(0, 0), (0, 0), (2, 1), (2, 2), (2, 3), (2, 4), (2, 5), (2, 6), (2, 7), (2, 8), (2, 9), (2, 10)])
abbrev isX9 (sh : List Sh) (t : Nat) : Prop := sh[t]? = some shX9 ∧ sh[t + 1]? = some (.inl (.long, 8)) ∧ sh[t + 2]? = some (.inl (.int, 8)) ∧ sh[t + 3]? = some (.inl (.int, 8)) ∧ sh[t + 4]? = some (.inl (.int, 8)) ∧ sh[t + 5]? = some (.inl (.int, 8)) ∧ sh[t + 6]? = some (.inl (.int, 4)) ∧ sh[t + 7]? = some (.inl (.int, 16)) ∧ sh[t + 8]? = some (.inl (.int, 4)) ∧ sh[t + 9]? = some (.inl (.int, 4)) ∧ sh[t + 10]? = some (.inl (.boolean, 8))
abbrev shX10 : Sh := .inr (10, [(0, 0), (0, 0), (0, 0), (0, 0), (2, 1), (2, 2), (2, 3), (2, 4), (2, 5), (2, 6)])
abbrev isX10 (sh : List Sh) (t : Nat) : Prop := sh[t]? = some shX10 ∧ sh[t + 1]? = some (.inl (.int, 6)) ∧ sh[t + 2]? = some (.inl (.int, 6)) ∧ sh[t + 3]? = some (.inl (.int, 600)) ∧ sh[t + 4]? = some (.inl (.int, 200)) ∧ sh[t + 5]? = some (.inl (.int, 200)) ∧ sh[t + 6]? = some (.inl (.long, 200))
abbrev shX11 : Sh := .inr (11, [(3, 0), (3, 0), (3, 0), (3, 0), (3, 0), (0, 0), (0, 0), (0, 0)])
abbrev isX11 (sh : List Sh) (t : Nat) : Prop := sh[t]? = some shX11
abbrev shX5 : Sh := .inr (5, [(2, 1), (2, 9), (3, 0)])
abbrev isX5 (sh : List Sh) (t : Nat) : Prop := sh[t]? = some shX5 ∧ isX4 sh (t + 1) ∧ sh[t + 9]? = some (.inl (.int, 144))
abbrev shX6 : Sh := .inr (6, [(2, 1), (0, 0), (0, 0), (0, 0), (0, 0), (0, 0), (1, 0), (0, 0), (0, 0), (0, 0), (3, 0)])
abbrev isX6 (sh : List Sh) (t : Nat) : Prop := sh[t]? = some shX6 ∧ sh[t + 1]? = some (.inl (.byte, 400))
abbrev shX8 : Sh := .inr (8, [(2, 1), (2, 13), (2, 40), (2, 44), (2, 47), (2, 50), (2, 53), (2, 56), (2, 59), (2, 60), (3, 0), (3, 0), (3, 0), (3, 0), (0, 0), (0, 0), (0, 0), (0, 0)])
abbrev isX8 (sh : List Sh) (t : Nat) : Prop := sh[t]? = some shX8 ∧ isX6 sh (t + 1) ∧ isX5 sh (t + 13) ∧ isX2 sh (t + 40) ∧ isX1 sh (t + 44) ∧ isX1 sh (t + 47) ∧ isX1 sh (t + 50) ∧ isX7 sh (t + 53) ∧ isX7 sh (t + 56) ∧ sh[t + 59]? = some (.inl (.int, 3)) ∧ sh[t + 60]? = some (.inl (.int, 6))
abbrev shX12 : Sh := .inr (12, [(0, 0), (0, 0), (0, 0), (0, 0), (0, 0), (3, 0), (3, 0), (2, 12), (2, 13), (0, 0), (0, 0), (0, 0), (0, 0), (0, 0), (0, 0), (0, 0), (1, 0), (0, 0), (0, 0), (2, 14), (2, 15), (2, 16), (2, 17), (2, 24), (2, 31), (0, 0), (0, 0), (2, 38), (2, 39), (2, 40), (2, 41), (2, 42), (2, 43), (2, 44), (2, 45), (0, 0), (2, 46), (2, 47), (0, 0), (2, 48), (0, 0), (2, 49), (2, 50), (2, 51), (2, 52), (2, 53), (2, 54), (2, 55), (2, 56), (2, 57), (2, 58), (2, 59), (2, 60), (1, 0), (1, 0), (2, 61), (2, 62), (0, 0), (2, 63)])
abbrev isX12 (sh : List Sh) (t : Nat) : Prop := sh[t]? = some shX12 ∧ isX11 sh (t + 12) ∧ sh[t + 13]? = some (.inl (.byte, 400)) ∧ sh[t + 14]? = some (.inl (.int, 6)) ∧ sh[t + 15]? = some (.inl (.int, 6)) ∧ sh[t + 16]? = some (.inl (.int, 3)) ∧ isX10 sh (t + 17) ∧ isX10 sh (t + 24) ∧ isX10 sh (t + 31) ∧ sh[t + 38]? = some (.inl (.int, 12)) ∧ sh[t + 39]? = some (.inl (.int, 12)) ∧ sh[t + 40]? = some (.inl (.int, 12)) ∧ sh[t + 41]? = some (.inl (.int, 3)) ∧ sh[t + 42]? = some (.inl (.int, 9)) ∧ sh[t + 43]? = some (.inl (.long, 10395)) ∧ sh[t + 44]? = some (.inl (.int, 10395)) ∧ sh[t + 45]? = some (.inl (.int, 10395)) ∧ sh[t + 46]? = some (.inl (.int, 12)) ∧ sh[t + 47]? = some (.inl (.int, 12)) ∧ sh[t + 48]? = some (.inl (.int, 3)) ∧ sh[t + 49]? = some (.inl (.int, 6)) ∧ sh[t + 50]? = some (.inl (.int, 16)) ∧ sh[t + 51]? = some (.inl (.int, 16)) ∧ sh[t + 52]? = some (.inl (.int, 16)) ∧ sh[t + 53]? = some (.inl (.int, 16)) ∧ sh[t + 54]? = some (.inl (.int, 16)) ∧ sh[t + 55]? = some (.inl (.int, 16)) ∧ sh[t + 56]? = some (.inl (.int, 16)) ∧ sh[t + 57]? = some (.inl (.int, 3)) ∧ sh[t + 58]? = some (.inl (.long, 800)) ∧ sh[t + 59]? = some (.inl (.long, 800)) ∧ sh[t + 60]? = some (.inl (.int, 800)) ∧ sh[t + 61]? = some (.inl (.int, 4)) ∧ sh[t + 62]? = some (.inl (.int, 4)) ∧ sh[t + 63]? = some (.inl (.long, 2))
