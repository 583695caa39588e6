/-! the law's own rows: the script, the two methods with a table, the cell of a throw -/
abbrev mL_law : MI := (yL_law, cL_law, 7, some .boolean, [])
abbrev mL_side : MI := (yL_side, cL_side, 5, some .int, tableOf [(0, 10, 13, 13)])
theorem bL_side : v_cBH mL_side [(0, 10, 13, 13)] 4 := ⟨gw_t 1110 (by decide +kernel) rfl, gw_t 0 (by decide +kernel) rfl, by decide +kernel, by decide⟩
theorem lkL_67 : Cond.methodLink RL 67 yL_side ∈ gw := gw_t 1108 (by decide +kernel) rfl
theorem stL_side : Cond.static yL_side ∈ gw := gw_t 1109 (by decide +kernel) rfl
theorem clL_13 : Cond.classLink RL 13 "java/util/NoSuchElementException" ∈ gw := gw_t 1111 (by decide +kernel) rfl
theorem bX12_book : v_cBH mX12_book [(59, 67, 70, 23)] 1 := ⟨gw_t 1506 (by decide +kernel) rfl, gw_t 10 (by decide +kernel) rfl, by decide +kernel, by decide⟩
theorem lkL_28 : Cond.methodLink RL 28 yX12_book ∈ gw := gw_t 1503 (by decide +kernel) rfl
theorem inX12_book : Cond.instanceMethod yX12_book ∈ gw := gw_t 1504 (by decide +kernel) rfl
theorem seX12_book : Cond.selects yX12_book.cls yX12_book yX12_book ∈ gw := gw_t 1505 (by decide +kernel) rfl
theorem sh_or {P : List Sh → Prop} {sh sh' cs : List Sh} (hz : sh' = sh ∨ sh' = sh ++ cs) (h : P sh) (ha : P sh → P (sh ++ cs)) : P sh' := by
  rcases hz with rfl | rfl
  · exact h
  · exact ha h
section LP
variable {l : Launch} {s0 : State} {D : va_G} {d mc ms : Nat} {M : MI} {Post : Option Value → AH → Prop} {PX : Nat → String → AH → Prop} {pc idx : Nat} {lv : List (Nat × Value)} {st : List Value} {h : AH}
theorem V_slen {b Ln : Nat} {xs : Nat → Int32} (hd : decode M.2.1 pc = .ok (.arraylength, 1)) (hX : va_X b Ln xs s0 s0.heap) (kk : V l s0 D d mc ms M Post PX (pc + 1) lv (.int (Int32.ofNat Ln) :: st) h) : V l s0 D d mc ms M Post PX pc lv (.ref b :: st) h := by
  intro p e R s m args below meth c H locs cells slots ls Q F r1 r2 r3 r4 fin w hS hl
  obtain ⟨hx0, hb, hml, hown, -, -, -, -, hts, hW⟩ := id F
  obtain ⟨cell, h1, h2, h3, h4, h5⟩ := hX
  exact W.alen hx0 hb (by rw [w.2.2 b (Array.getElem?_eq_some_iff.mp h1).1]; exact h1) (State.isArrayOf_alike hW.alike h2) (by rw [h4]) rfl rfl hd (kk p e R s m args below meth c H locs cells slots ls Q F r1 r2 r3 r4 fin w hS hl)
theorem V_sald {b Ln : Nat} {xs : Nat → Int32} {i : Int32} (hd : decode M.2.1 pc = .ok (.iaload, 1)) (hX : va_X b Ln xs s0 s0.heap) (hi : vp_in i Ln) (kk : V l s0 D d mc ms M Post PX (pc + 1) lv (.int (xs i.toNatClampNeg) :: st) h) : V l s0 D d mc ms M Post PX pc lv (.int i :: .ref b :: st) h := by
  intro p e R s m args below meth c H locs cells slots ls Q F r1 r2 r3 r4 fin w hS hl
  obtain ⟨hx0, hb, hml, hown, -, -, -, -, hts, hW⟩ := id F
  obtain ⟨cell, h1, h2, h3, h4, h5⟩ := hX
  have hin : i.toNatClampNeg < Ln := Nat.not_le.mp fun q => hi (Or.inr q)
  exact W.iald hx0 hb (by rw [w.2.2 b (Array.getElem?_eq_some_iff.mp h1).1]; exact h1) (State.isArrayOf_alike hW.alike h2) h3 (by rw [h4]; exact hi) (h5 _ hin) rfl rfl hd (kk p e R s m args below meth c H locs cells slots ls Q F r1 r2 r3 r4 fin w hS hl)
end LP

