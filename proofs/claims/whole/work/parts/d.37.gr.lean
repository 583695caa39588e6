/-! the shape grows: the reference's second Book, an exception's cell -/
theorem wd_len (B : Nat) (sh : List Sh) (S : St) : (wd B sh S).length = sh.length := by unfold wd; exact List.length_mapIdx
theorem wd_app (B : Nat) (sh cs : List Sh) (S : St) : wd B (sh ++ cs) S = wd B sh S ++ cs.mapIdx (fun i c => v_ce B S (i + sh.length) c) := by unfold wd; exact List.mapIdx_append
theorem wd_zS (B : Nat) (sh : List Sh) (S : St) : wd B sh (zS S sh.length) = wd B sh S := by
  apply List.ext_getElem?
  intro i
  unfold wd
  rw [List.getElem?_mapIdx, List.getElem?_mapIdx]
  cases hi : sh[i]? with
  | none => rfl
  | some c =>
    have hlt : i < sh.length := (List.getElem?_eq_some_iff.mp hi).1
    refine congrArg some (v_ce_congr ?_ ?_ ?_ ?_ ?_ c) <;> simp [zS, sA, sL, sI, sJ, sR, hlt]
theorem zS_A (S : St) (n k : Nat) : sA (zS S n) (k + n) = fun _ => 0 := if_neg (show ¬ k + n < n by omega)
theorem zS_L (S : St) (n k : Nat) : sL (zS S n) (k + n) = fun _ => 0 := if_neg (show ¬ k + n < n by omega)
theorem zS_I (S : St) (n k : Nat) : sI (zS S n) (k + n) = fun _ => 0 := if_neg (show ¬ k + n < n by omega)
theorem wd_bk (B : Nat) (sh : List Sh) (S : St) : wd B (sh ++ bkSh) (zS S sh.length) = wd B sh S ++ at_X9_init B sh.length := by
  rw [wd_app, wd_zS]
  refine congrArg (fun z => wd B sh S ++ z) ?_
  have aI : ∀ k n : Nat, v_ce B (zS S sh.length) (k + sh.length) (.inl (.int, n)) = .inl (.int, n, .inl fun _ => 0) := fun k n => congrArg (fun z => (Sum.inl (FieldType.int, n, Sum.inl z) : AC)) (zS_A S sh.length k)
  have aZ : ∀ k n : Nat, v_ce B (zS S sh.length) (k + sh.length) (.inl (.boolean, n)) = .inl (.boolean, n, .inl fun _ => 0) := fun k n => congrArg (fun z => (Sum.inl (FieldType.boolean, n, Sum.inl z) : AC)) (zS_A S sh.length k)
  have aL : ∀ k n : Nat, v_ce B (zS S sh.length) (k + sh.length) (.inl (.long, n)) = .inl (.long, n, .inr (.inl fun _ => 0)) := fun k n => congrArg (fun z => (Sum.inl (FieldType.long, n, Sum.inr (Sum.inl z)) : AC)) (zS_L S sh.length k)
  have o : v_ce B (zS S sh.length) (0 + sh.length) shX9 = .inr (9, [.int 0, .int 0, .ref (B + (sh.length + 1)), .ref (B + (sh.length + 2)), .ref (B + (sh.length + 3)), .ref (B + (sh.length + 4)), .ref (B + (sh.length + 5)), .ref (B + (sh.length + 6)), .ref (B + (sh.length + 7)), .ref (B + (sh.length + 8)), .ref (B + (sh.length + 9)), .ref (B + (sh.length + 10))]) := by
    have h := congrArg (fun z : Nat → Int32 => (Sum.inr (9, [Value.int (z 0), Value.int (z 1), .ref (B + (0 + sh.length + 1)), .ref (B + (0 + sh.length + 2)), .ref (B + (0 + sh.length + 3)), .ref (B + (0 + sh.length + 4)), .ref (B + (0 + sh.length + 5)), .ref (B + (0 + sh.length + 6)), .ref (B + (0 + sh.length + 7)), .ref (B + (0 + sh.length + 8)), .ref (B + (0 + sh.length + 9)), .ref (B + (0 + sh.length + 10))]) : AC)) (zS_I S sh.length 0)
    refine Eq.trans (show _ = _ from h) ?_
    simp only [Nat.zero_add]
  show [v_ce B (zS S sh.length) (0 + sh.length) shX9, v_ce B (zS S sh.length) (1 + sh.length) (.inl (.long, 8)), v_ce B (zS S sh.length) (2 + sh.length) (.inl (.int, 8)), v_ce B (zS S sh.length) (3 + sh.length) (.inl (.int, 8)), v_ce B (zS S sh.length) (4 + sh.length) (.inl (.int, 8)), v_ce B (zS S sh.length) (5 + sh.length) (.inl (.int, 8)), v_ce B (zS S sh.length) (6 + sh.length) (.inl (.int, 4)), v_ce B (zS S sh.length) (7 + sh.length) (.inl (.int, 16)), v_ce B (zS S sh.length) (8 + sh.length) (.inl (.int, 4)), v_ce B (zS S sh.length) (9 + sh.length) (.inl (.int, 4)), v_ce B (zS S sh.length) (10 + sh.length) (.inl (.boolean, 8))] = _
  rw [o, aL, aI, aI, aI, aI, aI, aI, aI, aI, aZ]
  rfl
theorem bk_is (sh : List Sh) : isX9 (sh ++ bkSh) sh.length := ⟨bk_at 0 rfl, bk_at 1 rfl, bk_at 2 rfl, bk_at 3 rfl, bk_at 4 rfl, bk_at 5 rfl, bk_at 6 rfl, bk_at 7 rfl, bk_at 8 rfl, bk_at 9 rfl, bk_at 10 rfl⟩
theorem thr2_l {α β : Type} {a : α} {f : α → Option β} {g : Nat × St → Option β} {x : Option β} (h : thr2 (.inl a) f g = x) : f a = x := h
theorem thr2_r {α β : Type} {q : Nat × St} {f : α → Option β} {g : Nat × St → Option β} {x : Option β} (h : thr2 (.inr q) f g = x) : g q = x := h
theorem oM_n {α : Type} {o : Option Nat} {a x : Option α} {f : Nat → Option α} (h : o = none) (k : oM o a f = x) : a = x := by subst h; exact k
theorem oM_s {α : Type} {o : Option Nat} {a x : Option α} {f : Nat → Option α} {b : Nat} (h : o = some b) (k : oM o a f = x) : f b = x := by subst h; exact k
abbrev mX12_book : MI := (yX12_book, cX12_book, 4, some .int, tableOf [(59, 67, 70, 23)])
theorem cast_stop {l : Launch} {s0 : State} {D : va_G} {a0 : Array Value} (G2 : GC2 l s0 D a0) : v_cast s0 RX11 "DrawnWaysModel$Stop" := G2.2.2.2.2.2.2.1
theorem V_newBk {l : Launch} {s0 : State} {D : va_G} {d : Nat} {M : MI} {Post : Option Value → AH → Prop} {PX : Nat → String → AH → Prop} {pc idx ic : Nat} {lv : List (Nat × Value)} {st : List Value} {a0 : Array Value} {sh : List Sh} {S : St} (G : GC l s0 D a0) (hd0 : decode M.2.1 pc = .ok (.new idx, 3)) (hd3 : decode M.2.1 (pc + 3) = .ok (.dup, 1)) (hd4 : decode M.2.1 (pc + 4) = .ok (.invokespecial ic, 3)) (hcl : Cond.classLink M.1.cls idx RX9 ∈ gw) (hci : v_cI M.1.cls ic mX9_init 0) (hw8 : ((Value.ref 0 :: st).map fun v => v.category).sum ≤ 8) (hdp : 1 ≤ d) (kk : V l s0 D (d + 1) 0 0 M Post PX (pc + 7) lv (.ref (s0.heap.size + sh.length) :: st) (wd s0.heap.size (sh ++ bkSh) (zS S sh.length))) : V l s0 D (d + 1) 11 88 M Post PX pc lv st (wd s0.heap.size sh S) := by
  rw [← List.append_nil (wd s0.heap.size sh S)]
  refine Z_newo (mc := 10) (ms := 76) (xs' := [.inr (9, [.int 0, .int 0, .null, .null, .null, .null, .null, .null, .null, .null, .null, .null])]) (ci := 9) (C := RX9) (T := TX9) (N := 12) G hd0 hcl insX9 iniX9 inX9 tyX9 tyX9_ok rfl (by decide +kernel) rfl rfl ?_
  refine V_dup hd3 rfl ?_
  refine Z_callI (mc := 0) (ms := 0) (mc' := 10) (ms' := 76) (xs' := at_X9_init s0.heap.size ((wd s0.heap.size sh S).length + 0)) (ys := []) (zf := at_X9_init s0.heap.size) G hd4 hci rfl rfl (z_X9_init G ((wd s0.heap.size sh S) ++ []) (by omega)) hw8 rfl ?_
  rw [wd_len]
  rw [wd_bk] at kk
  exact kk
theorem ga {sh cs : List Sh} {k : Nat} {c : Sh} (h : sh[k]? = some c) : (sh ++ cs)[k]? = some c := by
  rw [List.getElem?_append_left (List.getElem?_eq_some_iff.mp h).1]; exact h
theorem isX0_app {sh cs : List Sh} {t : Nat} (h : isX0 sh t) : isX0 (sh ++ cs) t := ⟨ga h.1, ga h.2.1, ga h.2.2.1, ga h.2.2.2.1, ga h.2.2.2.2.1, ga h.2.2.2.2.2.1, ga h.2.2.2.2.2.2.1, ga h.2.2.2.2.2.2.2.1, ga h.2.2.2.2.2.2.2.2.1, ga h.2.2.2.2.2.2.2.2.2⟩
theorem isX1_app {sh cs : List Sh} {t : Nat} (h : isX1 sh t) : isX1 (sh ++ cs) t := ⟨ga h.1, ga h.2.1, ga h.2.2⟩
theorem isX2_app {sh cs : List Sh} {t : Nat} (h : isX2 sh t) : isX2 (sh ++ cs) t := ⟨ga h.1, ga h.2.1, ga h.2.2.1, ga h.2.2.2⟩
theorem isX3_app {sh cs : List Sh} {t : Nat} (h : isX3 sh t) : isX3 (sh ++ cs) t := ⟨ga h.1, ga h.2.1, ga h.2.2.1, ga h.2.2.2.1, ga h.2.2.2.2.1, ga h.2.2.2.2.2.1, ga h.2.2.2.2.2.2.1, ga h.2.2.2.2.2.2.2.1, ga h.2.2.2.2.2.2.2.2.1, ga h.2.2.2.2.2.2.2.2.2.1, ga h.2.2.2.2.2.2.2.2.2.2.1, ga h.2.2.2.2.2.2.2.2.2.2.2.1, ga h.2.2.2.2.2.2.2.2.2.2.2.2.1, ga h.2.2.2.2.2.2.2.2.2.2.2.2.2.1, ga h.2.2.2.2.2.2.2.2.2.2.2.2.2.2.1, ga h.2.2.2.2.2.2.2.2.2.2.2.2.2.2.2.1, ga h.2.2.2.2.2.2.2.2.2.2.2.2.2.2.2.2⟩
theorem isX4_app {sh cs : List Sh} {t : Nat} (h : isX4 sh t) : isX4 (sh ++ cs) t := ⟨ga h.1, ga h.2.1, ga h.2.2.1, ga h.2.2.2.1, ga h.2.2.2.2.1, ga h.2.2.2.2.2.1, ga h.2.2.2.2.2.2.1, ga h.2.2.2.2.2.2.2⟩
theorem isX7_app {sh cs : List Sh} {t : Nat} (h : isX7 sh t) : isX7 (sh ++ cs) t := ⟨ga h.1, ga h.2.1, ga h.2.2⟩
theorem isX9_app {sh cs : List Sh} {t : Nat} (h : isX9 sh t) : isX9 (sh ++ cs) t := ⟨ga h.1, ga h.2.1, ga h.2.2.1, ga h.2.2.2.1, ga h.2.2.2.2.1, ga h.2.2.2.2.2.1, ga h.2.2.2.2.2.2.1, ga h.2.2.2.2.2.2.2.1, ga h.2.2.2.2.2.2.2.2.1, ga h.2.2.2.2.2.2.2.2.2.1, ga h.2.2.2.2.2.2.2.2.2.2⟩
theorem isX10_app {sh cs : List Sh} {t : Nat} (h : isX10 sh t) : isX10 (sh ++ cs) t := ⟨ga h.1, ga h.2.1, ga h.2.2.1, ga h.2.2.2.1, ga h.2.2.2.2.1, ga h.2.2.2.2.2.1, ga h.2.2.2.2.2.2⟩
theorem isX11_app {sh cs : List Sh} {t : Nat} (h : isX11 sh t) : isX11 (sh ++ cs) t := ga h
theorem isX5_app {sh cs : List Sh} {t : Nat} (h : isX5 sh t) : isX5 (sh ++ cs) t := ⟨ga h.1, isX4_app h.2.1, ga h.2.2⟩
theorem isX6_app {sh cs : List Sh} {t : Nat} (h : isX6 sh t) : isX6 (sh ++ cs) t := ⟨ga h.1, ga h.2⟩
theorem isX8_app {sh cs : List Sh} {t : Nat} (h : isX8 sh t) : isX8 (sh ++ cs) t := ⟨ga h.1, isX6_app h.2.1, isX5_app h.2.2.1, isX2_app h.2.2.2.1, isX1_app h.2.2.2.2.1, isX1_app h.2.2.2.2.2.1, isX1_app h.2.2.2.2.2.2.1, isX7_app h.2.2.2.2.2.2.2.1, isX7_app h.2.2.2.2.2.2.2.2.1, ga h.2.2.2.2.2.2.2.2.2.1, ga h.2.2.2.2.2.2.2.2.2.2⟩
theorem isX12_app {sh cs : List Sh} {t : Nat} (h : isX12 sh t) : isX12 (sh ++ cs) t := ⟨ga h.1, isX11_app h.2.1, ga h.2.2.1, ga h.2.2.2.1, ga h.2.2.2.2.1, ga h.2.2.2.2.2.1, isX10_app h.2.2.2.2.2.2.1, isX10_app h.2.2.2.2.2.2.2.1, isX10_app h.2.2.2.2.2.2.2.2.1, ga h.2.2.2.2.2.2.2.2.2.1, ga h.2.2.2.2.2.2.2.2.2.2.1, ga h.2.2.2.2.2.2.2.2.2.2.2.1, ga h.2.2.2.2.2.2.2.2.2.2.2.2.1, ga h.2.2.2.2.2.2.2.2.2.2.2.2.2.1, ga h.2.2.2.2.2.2.2.2.2.2.2.2.2.2.1, ga h.2.2.2.2.2.2.2.2.2.2.2.2.2.2.2.1, ga h.2.2.2.2.2.2.2.2.2.2.2.2.2.2.2.2.1, ga h.2.2.2.2.2.2.2.2.2.2.2.2.2.2.2.2.2.1, ga h.2.2.2.2.2.2.2.2.2.2.2.2.2.2.2.2.2.2.1, ga h.2.2.2.2.2.2.2.2.2.2.2.2.2.2.2.2.2.2.2.1, ga h.2.2.2.2.2.2.2.2.2.2.2.2.2.2.2.2.2.2.2.2.1, ga h.2.2.2.2.2.2.2.2.2.2.2.2.2.2.2.2.2.2.2.2.2.1, ga h.2.2.2.2.2.2.2.2.2.2.2.2.2.2.2.2.2.2.2.2.2.2.1, ga h.2.2.2.2.2.2.2.2.2.2.2.2.2.2.2.2.2.2.2.2.2.2.2.1, ga h.2.2.2.2.2.2.2.2.2.2.2.2.2.2.2.2.2.2.2.2.2.2.2.2.1, ga h.2.2.2.2.2.2.2.2.2.2.2.2.2.2.2.2.2.2.2.2.2.2.2.2.2.1, ga h.2.2.2.2.2.2.2.2.2.2.2.2.2.2.2.2.2.2.2.2.2.2.2.2.2.2.1, ga h.2.2.2.2.2.2.2.2.2.2.2.2.2.2.2.2.2.2.2.2.2.2.2.2.2.2.2.1, ga h.2.2.2.2.2.2.2.2.2.2.2.2.2.2.2.2.2.2.2.2.2.2.2.2.2.2.2.2.1, ga h.2.2.2.2.2.2.2.2.2.2.2.2.2.2.2.2.2.2.2.2.2.2.2.2.2.2.2.2.2.1, ga h.2.2.2.2.2.2.2.2.2.2.2.2.2.2.2.2.2.2.2.2.2.2.2.2.2.2.2.2.2.2.1, ga h.2.2.2.2.2.2.2.2.2.2.2.2.2.2.2.2.2.2.2.2.2.2.2.2.2.2.2.2.2.2.2.1, ga h.2.2.2.2.2.2.2.2.2.2.2.2.2.2.2.2.2.2.2.2.2.2.2.2.2.2.2.2.2.2.2.2.1, ga h.2.2.2.2.2.2.2.2.2.2.2.2.2.2.2.2.2.2.2.2.2.2.2.2.2.2.2.2.2.2.2.2.2.1, ga h.2.2.2.2.2.2.2.2.2.2.2.2.2.2.2.2.2.2.2.2.2.2.2.2.2.2.2.2.2.2.2.2.2.2⟩

