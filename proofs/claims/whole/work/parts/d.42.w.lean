set_option maxRecDepth 100000 in
set_option maxHeartbeats 8000000 in
theorem w_L_law' {l : Launch} {s0 : State} {D : va_G} {a0 : Array Value} {f n : Nat} {xs : Nat → Int32} {Ln b : Nat} {r : Int32} {d : Nat} (G2 : GC2 l s0 D a0) (hX : va_X b Ln xs s0 s0.heap) (hd : 31 ≤ d + 1) (hF : F_L_law_L23 f xs Ln n SH S0 0 = some r) (h : AH) (hh : h = []) : V l s0 D (d + 1) (11 * n + 1 + 63 + 1 + 93 + 1) (88 * n + 1 + 37968 + 59 + 4960 + 18) mL_law (fun v _ => v = some (.int r)) v_noX 0 [(0, .ref b)] [] (h ++ []) := by
  have G := G2.1
  refine Z_newo (mc := 11 * n + 1 + 63 + 1 + 93) (ms := 88 * n + 1 + 37968 + 59 + 4960) (xs' := [.inr (8, [.null, .null, .null, .null, .null, .null, .null, .null, .null, .null, .null, .null, .null, .null, .int 0, .int 0, .int 0, .int 0])]) (k := 0) (ci := 8) (C := RX8) (T := TX8) (N := 18) G dL_law_0 cL_8 insX8 iniX8 inX8 tyX8 tyX8_ok rfl (by decide +kernel) rfl rfl ?_
  refine V_dup dL_law_3 rfl ?_
  refine Z_callI (mc := 11 * n + 1 + 63 + 1) (ms := 88 * n + 1 + 37968 + 59) (mc' := 93) (ms' := 4960) (xs' := at_X8_init s0.heap.size (h.length + 0)) (ys := []) (k := 0) (zf := at_X8_init s0.heap.size) G dL_law_4 kL_15 rfl rfl (z_X8_init G (h ++ []) (by omega)) (Nat.le_of_ble_eq_true rfl) (List.nil_append _) ?_
  refine V_astore_n dL_law_7 (by decide) ?_
  have e8 : (at_X8_init s0.heap.size (h.length + 0)).length = 94 := by subst hh; exact at8_len s0.heap.size
  generalize hq : at_X8_init s0.heap.size (h.length + 0) = q8 at e8 ⊢
  refine Z_newo (mc := 11 * n + 1 + 63) (ms := 88 * n + 1 + 37968) (xs' := q8 ++ [.inr (12, [.int 0, .int 0, .int 0, .int 0, .int 0, .null, .null, .null, .null, .int 0, .int 0, .int 0, .int 0, .int 0, .int 0, .int 0, .long 0, .int 0, .int 0, .null, .null, .null, .null, .null, .null, .int 0, .int 0, .null, .null, .null, .null, .null, .null, .null, .null, .int 0, .null, .null, .int 0, .null, .int 0, .null, .null, .null, .null, .null, .null, .null, .null, .null, .null, .null, .null, .long 0, .long 0, .null, .null, .int 0, .null])]) (ci := 12) (C := RX12) (T := TX12) (N := 59) (k := 94) G dL_law_8 cL_16 insX12 iniX12 inX12 tyX12 tyX12_ok rfl (by decide +kernel) e8 rfl ?_
  refine V_dup dL_law_11 rfl ?_
  refine Z_callI (mc := 11 * n + 1) (ms := 88 * n + 1) (mc' := 63) (ms' := 37968) (xs' := q8 ++ at_X12_init s0.heap.size (h.length + 94)) (ys := q8) (k := 94) (zf := at_X12_init s0.heap.size) G dL_law_12 kL_18 rfl e8 (z_X12_init G2 (h ++ q8) (by omega)) (Nat.le_of_ble_eq_true rfl) rfl ?_
  refine V_astore_n dL_law_15 (by decide) ?_
  refine V_iconst (v := 1) dL_law_16 (by decide) ?_
  have e12 : (at_X12_init s0.heap.size (h.length + 94)).length = 64 := by subst hh; exact at12_len s0.heap.size
  generalize hq' : at_X12_init s0.heap.size (h.length + 94) = q12 at e12 ⊢
  refine Z_newa (mc := 11 * n) (ms := 88 * n) (xs' := q8 ++ (q12 ++ [.inl (.long, 1, .inr (.inl fun _ => 0))])) (k := 158) (N := 1) (x := (1, .inr (.inl fun _ => 0))) G dL_law_17 ac_long (fun _ => rfl) (by decide) (by decide) (by decide) (by rw [List.length_append, e8, e12]) (List.append_assoc _ _ _) ?_
  refine V_astore_n dL_law_19 (by decide) ?_
  refine V_iconst (v := 0) dL_law_20 (by decide) ?_
  refine V_istore dL_law_21 (by decide) ?_
  subst hh
  have eh : ([] : AH) ++ (q8 ++ (q12 ++ [.inl (.long, 1, .inr (.inl fun _ => 0))])) = wd s0.heap.size SH S0 := by rw [wd_S0, ← hq, ← hq']; rfl
  rw [eh]
  refine V_lv' (w_L_law_L23 G2 hX hd n SH S0 0 SH8 SH12 SHo hF) (v_all_c rfl (v_all_c ?_ (v_all_c ?_ (v_all_c ?_ (v_all_c rfl v_all_n)))))
  · exact congrArg (fun z => some (Value.ref (s0.heap.size + z))) (Nat.zero_add 0)
  · exact congrArg (fun z => some (Value.ref (s0.heap.size + z))) (Nat.zero_add 94)
  · exact congrArg (fun z => some (Value.ref (s0.heap.size + z))) (Nat.zero_add 158)

