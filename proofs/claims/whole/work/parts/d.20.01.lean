set_option maxRecDepth 100000 in
set_option maxHeartbeats 4000000 in
theorem s_X0_closeRule {l : Launch} {s0 : State} {D : va_G} {a0 : Array Value} {sh : List Sh} {f : Nat} {S : St} {t : Nat} {p1 : Int32} {p2 : Int32} (ht : isX0 sh t) {r : Int32 × St} (G : GC l s0 D a0) (hF : F_X0_closeRule sh f S t p1 p2 = some r) {d : Nat} (hd : 4 ≤ d) : Sp l s0 D d 0 0 mX0_closeRule (fun v h => v = some (.int r.1) ∧ h = wd s0.heap.size sh r.2) v_noX [.ref (s0.heap.size + t), .int p1, .int p2] (wd s0.heap.size sh S) := by
  obtain ⟨d, rfl⟩ : ∃ e, d = e + 1 := ⟨d - 1, by omega⟩
  refine Sp.of (by decide +kernel) rfl (Nat.le_of_ble_eq_true rfl) ?_
  unfold F_X0_closeRule at hF
  refine V_aload_n dX0_closeRule_0 rfl ?_
  refine X_gI G dX0_closeRule_1 fX0_44 ht.1 rfl ?_
  refine V_iconst (v := 4) dX0_closeRule_4 (by decide) ?_
  refine V_icmp_lt (tgt := 10) dX0_closeRule_5 (by decide) (fun c => ?_) (fun c => ?_)
  · replace hF := (if_pos c).symm.trans hF
    refine V_aload_n dX0_closeRule_10 rfl ?_
    refine X_gI G dX0_closeRule_11 fX0_44 ht.1 rfl ?_
    refine V_iconst (v := 4) dX0_closeRule_14 (by decide) ?_
    refine V_imul dX0_closeRule_15 ?_
    obtain ⟨x1, qx1, hF⟩ := bnd_g hF
    refine B_istore_n qx1 dX0_closeRule_16 (by decide) ?_
    refine V_aload_n dX0_closeRule_17 rfl ?_
    refine V_aload_n dX0_closeRule_18 rfl ?_
    refine X_gC G dX0_closeRule_19 fX0_37 ht.1 rfl ?_
    refine V_iload_n dX0_closeRule_22 rfl ?_
    refine V_aload_n dX0_closeRule_23 rfl ?_
    refine X_gC G dX0_closeRule_24 fX0_28 ht.1 rfl ?_
    refine V_aload_n dX0_closeRule_27 rfl ?_
    refine X_gI G dX0_closeRule_28 fX0_44 ht.1 rfl ?_
    obtain ⟨hz, hF⟩ := gv_out hF
    refine X_iald dX0_closeRule_31 ht.2.2.2.2.2.2.1 hz ?_
    obtain ⟨y2, hc, hF⟩ := bd hF
    refine V_callV G dX0_closeRule_32 kX0_59 (wd_at ht.1) ⟨by decide, rfl⟩ (s_X0_areEven ht ht.2.2.2.2.2.2.2.2.2 G hc (by omega)) rfl (Nat.le_of_ble_eq_true rfl) (fun _ _ _ q => q.elim) ?_
    rintro _ _ ⟨rfl, rfl⟩
    refine V_if_eq (tgt := 55) dX0_closeRule_35 (by decide) (fun c => ?_) (fun c => ?_)
    · replace hF := (if_pos c).symm.trans hF
      refine V_iconst (v := 0) dX0_closeRule_55 (by decide) ?_
      cases hF
      exact V_ireturn dX0_closeRule_56 rfl (by decide) ⟨rfl, rfl⟩
    · replace hF := (if_neg c).symm.trans hF
      refine V_aload_n dX0_closeRule_38 rfl ?_
      refine V_iload_n dX0_closeRule_39 rfl ?_
      refine V_aload_n dX0_closeRule_40 rfl ?_
      refine X_gC G dX0_closeRule_41 fX0_28 ht.1 rfl ?_
      refine V_aload_n dX0_closeRule_44 rfl ?_
      refine X_gI G dX0_closeRule_45 fX0_44 ht.1 rfl ?_
      obtain ⟨hz, hF⟩ := gv_out hF
      refine X_iald dX0_closeRule_48 ht.2.2.2.2.2.2.1 hz ?_
      obtain ⟨y3, hc, hF⟩ := bd hF
      refine V_callV G dX0_closeRule_49 kX0_63 (wd_at ht.1) ⟨by decide, rfl⟩ (s_X0_hasHalfTwice ht G hc (by omega)) rfl (Nat.le_of_ble_eq_true rfl) (fun _ _ _ q => q.elim) ?_
      rintro _ _ ⟨rfl, rfl⟩
      refine V_if_eq (tgt := 57) dX0_closeRule_52 (by decide) (fun c => ?_) (fun c => ?_)
      · replace hF := (if_pos c).symm.trans hF
        refine V_aload_n dX0_closeRule_57 rfl ?_
        refine X_gC G dX0_closeRule_58 fX0_31 ht.1 rfl ?_
        refine V_aload_n dX0_closeRule_61 rfl ?_
        refine X_gI G dX0_closeRule_62 fX0_44 ht.1 rfl ?_
        refine V_iload_n dX0_closeRule_65 rfl ?_
        obtain ⟨hz, hF⟩ := gv_out hF
        refine X_iast dX0_closeRule_66 ht.2.2.2.2.2.2.2.1 hz ?_
        obtain ⟨S4, qS4, hF⟩ := bnd_g hF
        refine V_eqS qS4 ?_
        refine V_aload_n dX0_closeRule_67 rfl ?_
        refine X_gC G dX0_closeRule_68 fX0_34 ht.1 rfl ?_
        refine V_aload_n dX0_closeRule_71 rfl ?_
        refine X_gI G dX0_closeRule_72 fX0_44 ht.1 rfl ?_
        refine V_iload_n dX0_closeRule_75 rfl ?_
        obtain ⟨hz, hF⟩ := gv_out hF
        refine X_iast dX0_closeRule_76 ht.2.2.2.2.2.2.2.2.1 hz ?_
        obtain ⟨S5, qS5, hF⟩ := bnd_g hF
        refine V_eqS qS5 ?_
        refine V_aload_n dX0_closeRule_77 rfl ?_
        refine V_dup dX0_closeRule_78 rfl ?_
        refine X_gI G dX0_closeRule_79 fX0_44 ht.1 rfl ?_
        refine V_iconst (v := 1) dX0_closeRule_82 (by decide) ?_
        refine V_iadd dX0_closeRule_83 ?_
        refine X_pI G dX0_closeRule_84 gX0_44 ht.1 rfl rfl rfl ?_
        obtain ⟨S6, qS6, hF⟩ := bnd_g hF
        refine V_eqS qS6 ?_
        refine V_iconst (v := 1) dX0_closeRule_87 (by decide) ?_
        cases hF
        exact V_ireturn dX0_closeRule_88 rfl (by decide) ⟨rfl, rfl⟩
      · replace hF := (if_neg c).symm.trans hF
        refine V_iconst (v := 0) dX0_closeRule_55 (by decide) ?_
        cases hF
        exact V_ireturn dX0_closeRule_56 rfl (by decide) ⟨rfl, rfl⟩
  · replace hF := (if_neg c).symm.trans hF
    refine V_iconst (v := 0) dX0_closeRule_8 (by decide) ?_
    cases hF
    exact V_ireturn dX0_closeRule_9 rfl (by decide) ⟨rfl, rfl⟩
set_option maxRecDepth 100000 in
set_option maxHeartbeats 4000000 in
theorem s_X1_clear {l : Launch} {s0 : State} {D : va_G} {a0 : Array Value} {sh : List Sh} {f : Nat} {S : St} {t : Nat} (ht : isX1 sh t) {r : St} (G : GC l s0 D a0) (hF : F_X1_clear sh f S t = some r) {d : Nat} (hd : 1 ≤ d) : Sp l s0 D d 0 0 mX1_clear (fun v h => v = none ∧ h = wd s0.heap.size sh r) v_noX [.ref (s0.heap.size + t)] (wd s0.heap.size sh S) := by
  obtain ⟨d, rfl⟩ : ∃ e, d = e + 1 := ⟨d - 1, by omega⟩
  refine Sp.of (by decide +kernel) rfl (Nat.le_of_ble_eq_true rfl) ?_
  unfold F_X1_clear at hF
  refine V_aload_n dX1_clear_0 rfl ?_
  refine V_iconst (v := 0) dX1_clear_1 (by decide) ?_
  refine X_pI G dX1_clear_2 gX1_18 ht.1 rfl rfl rfl ?_
  obtain ⟨S1, qS1, hF⟩ := bnd_g hF
  refine V_eqS qS1 ?_
  cases hF
  exact V_return dX1_clear_5 rfl ⟨rfl, rfl⟩
set_option maxRecDepth 100000 in
set_option maxHeartbeats 4000000 in
theorem s_X1_add {l : Launch} {s0 : State} {D : va_G} {a0 : Array Value} {sh : List Sh} {f : Nat} {S : St} {t : Nat} {p1 : Int32} {p2 : Int32} (ht : isX1 sh t) {r : St} (G : GC l s0 D a0) (hF : F_X1_add sh f S t p1 p2 = some r) {d : Nat} (hd : 1 ≤ d) : Sp l s0 D d 0 0 mX1_add (fun v h => v = none ∧ h = wd s0.heap.size sh r) v_noX [.ref (s0.heap.size + t), .int p1, .int p2] (wd s0.heap.size sh S) := by
  obtain ⟨d, rfl⟩ : ∃ e, d = e + 1 := ⟨d - 1, by omega⟩
  refine Sp.of (by decide +kernel) rfl (Nat.le_of_ble_eq_true rfl) ?_
  unfold F_X1_add at hF
  refine V_aload_n dX1_add_0 rfl ?_
  refine X_gI G dX1_add_1 fX1_18 ht.1 rfl ?_
  refine V_bipush (v := 6) dX1_add_4 (by decide) ?_
  refine V_icmp_ge (tgt := 39) dX1_add_6 (by decide) (fun c => ?_) (fun c => ?_)
  · replace hF := (if_pos c).symm.trans hF
    cases hF
    exact V_return dX1_add_39 rfl ⟨rfl, rfl⟩
  · replace hF := (if_neg c).symm.trans hF
    refine V_aload_n dX1_add_9 rfl ?_
    refine X_gC G dX1_add_10 fX1_9 ht.1 rfl ?_
    refine V_aload_n dX1_add_13 rfl ?_
    refine X_gI G dX1_add_14 fX1_18 ht.1 rfl ?_
    refine V_iload_n dX1_add_17 rfl ?_
    obtain ⟨hz, hF⟩ := gv_out hF
    refine X_iast dX1_add_18 ht.2.1 hz ?_
    obtain ⟨S1, qS1, hF⟩ := bnd_g hF
    refine V_eqS qS1 ?_
    refine V_aload_n dX1_add_19 rfl ?_
    refine X_gC G dX1_add_20 fX1_15 ht.1 rfl ?_
    refine V_aload_n dX1_add_23 rfl ?_
    refine X_gI G dX1_add_24 fX1_18 ht.1 rfl ?_
    refine V_iload_n dX1_add_27 rfl ?_
    obtain ⟨hz, hF⟩ := gv_out hF
    refine X_iast dX1_add_28 ht.2.2 hz ?_
    obtain ⟨S2, qS2, hF⟩ := bnd_g hF
    refine V_eqS qS2 ?_
    refine V_aload_n dX1_add_29 rfl ?_
    refine V_dup dX1_add_30 rfl ?_
    refine X_gI G dX1_add_31 fX1_18 ht.1 rfl ?_
    refine V_iconst (v := 1) dX1_add_34 (by decide) ?_
    refine V_iadd dX1_add_35 ?_
    refine X_pI G dX1_add_36 gX1_18 ht.1 rfl rfl rfl ?_
    obtain ⟨S3, qS3, hF⟩ := bnd_g hF
    refine V_eqS qS3 ?_
    cases hF
    exact V_return dX1_add_39 rfl ⟨rfl, rfl⟩
set_option maxRecDepth 100000 in
set_option maxHeartbeats 4000000 in
theorem s_X1_isBalanced {l : Launch} {s0 : State} {D : va_G} {a0 : Array Value} {sh : List Sh} {f : Nat} {S : St} {t : Nat} {p1 : Nat} (ht : isX1 sh t) (hp1 : isX0 sh p1) {r : Int32} (G : GC l s0 D a0) (hF : F_X1_isBalanced sh f S t p1 = some r) {d : Nat} (hd : 4 ≤ d) : Sp l s0 D d 0 0 mX1_isBalanced (fun v h => v = some (.int r) ∧ h = wd s0.heap.size sh S) v_noX [.ref (s0.heap.size + t), .ref (s0.heap.size + p1)] (wd s0.heap.size sh S) := by
  obtain ⟨d, rfl⟩ : ∃ e, d = e + 1 := ⟨d - 1, by omega⟩
  refine Sp.of (by decide +kernel) rfl (Nat.le_of_ble_eq_true rfl) ?_
  unfold F_X1_isBalanced at hF
  refine V_aload_n dX1_isBalanced_0 rfl ?_
  refine V_aload_n dX1_isBalanced_1 rfl ?_
  refine X_gC G dX1_isBalanced_2 fX1_9 ht.1 rfl ?_
  refine V_iconst (v := 0) dX1_isBalanced_5 (by decide) ?_
  refine V_aload_n dX1_isBalanced_6 rfl ?_
  refine X_gI G dX1_isBalanced_7 fX1_18 ht.1 rfl ?_
  obtain ⟨y1, hc, hF⟩ := bd hF
  refine V_callV G dX1_isBalanced_10 kX1_22 (wd_at hp1.1) ⟨by decide, rfl⟩ (s_X0_areEven hp1 ht.2.1 G hc (by omega)) rfl (Nat.le_of_ble_eq_true rfl) (fun _ _ _ q => q.elim) ?_
  rintro _ _ ⟨rfl, rfl⟩
  obtain ⟨hz, hF⟩ := gv_out hF
  cases hF
  exact V_ireturn dX1_isBalanced_13 rfl (nb_n hz) ⟨rfl, rfl⟩
set_option maxRecDepth 100000 in
set_option maxHeartbeats 4000000 in
theorem w_X1_flow_L4 {l : Launch} {s0 : State} {D : va_G} {a0 : Array Value} {sh : List Sh} {f : Nat} {S : St} {t : Nat} {p1 : Int32} (ht : isX1 sh t) {r : Int32} {d : Nat} (G : GC l s0 D a0) (hd : 1 ≤ d + 1) : ∀ (n : Nat) (l2 : Int32) (l3 : Int32), F_X1_flow_L4 sh f S t p1 n l2 l3 = some r → V l s0 D (d + 1) 0 0 mX1_flow (fun v h => v = some (.int r) ∧ h = wd s0.heap.size sh S) v_noX 4 [(0, .ref (s0.heap.size + t)), (1, .int p1), (2, .int l2), (3, .int l3)] [] (wd s0.heap.size sh S) := by
  intro n
  induction n with
  | zero => intro l2 l3 hF; cases hF
  | succ n ih =>
    intro l2 l3 hF
    unfold F_X1_flow_L4 at hF
    refine V_iload_n dX1_flow_4 rfl ?_
    refine V_aload_n dX1_flow_5 rfl ?_
    refine X_gI G dX1_flow_6 fX1_18 ht.1 rfl ?_
    refine V_icmp_ge (tgt := 35) dX1_flow_9 (by decide) (fun c => ?_) (fun c => ?_)
    · replace hF := (if_pos c).symm.trans hF
      refine V_iload_n dX1_flow_35 rfl ?_
      cases hF
      exact V_ireturn dX1_flow_36 rfl rfl ⟨rfl, rfl⟩
    · replace hF := (if_neg c).symm.trans hF
      refine V_iload_n dX1_flow_12 rfl ?_
      refine V_iload_n dX1_flow_13 rfl ?_
      refine V_ishr dX1_flow_14 ?_
      refine V_iconst (v := 1) dX1_flow_15 (by decide) ?_
      refine V_iand dX1_flow_16 ?_
      refine V_if_eq (tgt := 29) dX1_flow_17 (by decide) (fun c => ?_) (fun c => ?_)
      · replace hF := (if_pos c).symm.trans hF
        obtain ⟨x1, qx1, hF⟩ := bnd_g hF
        refine B_iinc (v := 1) qx1 dX1_flow_29 rfl (by decide) (by decide) ?_
        refine V_goto (tgt := 4) dX1_flow_32 (by decide) ?_
        exact V_lv' (ih _ _ hF) (v_all_c rfl (v_all_c rfl (v_all_c rfl (v_all_c rfl v_all_n))))
      · replace hF := (if_neg c).symm.trans hF
        refine V_iload_n dX1_flow_20 rfl ?_
        refine V_aload_n dX1_flow_21 rfl ?_
        refine X_gC G dX1_flow_22 fX1_15 ht.1 rfl ?_
        refine V_iload_n dX1_flow_25 rfl ?_
        obtain ⟨hz, hF⟩ := gv_out hF
        refine X_iald dX1_flow_26 ht.2.2 hz ?_
        refine V_iadd dX1_flow_27 ?_
        obtain ⟨x2, qx2, hF⟩ := bnd_g hF
        refine B_istore_n qx2 dX1_flow_28 (by decide) ?_
        obtain ⟨x3, qx3, hF⟩ := bnd_g hF
        refine B_iinc (v := 1) qx3 dX1_flow_29 rfl (by decide) (by decide) ?_
        refine V_goto (tgt := 4) dX1_flow_32 (by decide) ?_
        exact V_lv' (ih _ _ hF) (v_all_c rfl (v_all_c rfl (v_all_c rfl (v_all_c rfl v_all_n))))
set_option maxRecDepth 100000 in
set_option maxHeartbeats 4000000 in
theorem s_X1_flow {l : Launch} {s0 : State} {D : va_G} {a0 : Array Value} {sh : List Sh} {f : Nat} {S : St} {t : Nat} {p1 : Int32} (ht : isX1 sh t) {r : Int32} (G : GC l s0 D a0) (hF : F_X1_flow sh f S t p1 = some r) {d : Nat} (hd : 1 ≤ d) : Sp l s0 D d 0 0 mX1_flow (fun v h => v = some (.int r) ∧ h = wd s0.heap.size sh S) v_noX [.ref (s0.heap.size + t), .int p1] (wd s0.heap.size sh S) := by
  obtain ⟨d, rfl⟩ : ∃ e, d = e + 1 := ⟨d - 1, by omega⟩
  refine Sp.of (by decide +kernel) rfl (Nat.le_of_ble_eq_true rfl) ?_
  unfold F_X1_flow at hF
  refine V_iconst (v := 0) dX1_flow_0 (by decide) ?_
  refine V_istore_n dX1_flow_1 (by decide) ?_
  refine V_iconst (v := 0) dX1_flow_2 (by decide) ?_
  refine V_istore_n dX1_flow_3 (by decide) ?_
  exact V_lv' (w_X1_flow_L4 ht G hd f _ _ hF) (v_all_c rfl (v_all_c rfl (v_all_c rfl (v_all_c rfl v_all_n))))
set_option maxRecDepth 100000 in
set_option maxHeartbeats 4000000 in
theorem s_X1_total {l : Launch} {s0 : State} {D : va_G} {a0 : Array Value} {sh : List Sh} {f : Nat} {S : St} {t : Nat} (ht : isX1 sh t) {r : Int32} (G : GC l s0 D a0) (hF : F_X1_total sh f S t = some r) {d : Nat} (hd : 2 ≤ d) : Sp l s0 D d 0 0 mX1_total (fun v h => v = some (.int r) ∧ h = wd s0.heap.size sh S) v_noX [.ref (s0.heap.size + t)] (wd s0.heap.size sh S) := by
  obtain ⟨d, rfl⟩ : ∃ e, d = e + 1 := ⟨d - 1, by omega⟩
  refine Sp.of (by decide +kernel) rfl (Nat.le_of_ble_eq_true rfl) ?_
  unfold F_X1_total at hF
  refine V_aload_n dX1_total_0 rfl ?_
  refine V_iconst (v := 1) dX1_total_1 (by decide) ?_
  refine V_aload_n dX1_total_2 rfl ?_
  refine X_gI G dX1_total_3 fX1_18 ht.1 rfl ?_
  refine V_ishl dX1_total_6 ?_
  refine V_iconst (v := 1) dX1_total_7 (by decide) ?_
  refine V_isub dX1_total_8 ?_
  obtain ⟨y1, hc, hF⟩ := bd hF
  refine V_callV G dX1_total_9 kX1_28 (wd_at ht.1) ⟨by decide, rfl⟩ (s_X1_flow ht G hc (by omega)) rfl (Nat.le_of_ble_eq_true rfl) (fun _ _ _ q => q.elim) ?_
  rintro _ _ ⟨rfl, rfl⟩
  cases hF
  exact V_ireturn dX1_total_12 rfl rfl ⟨rfl, rfl⟩
set_option maxRecDepth 100000 in
set_option maxHeartbeats 4000000 in
theorem s_X1_isSide {l : Launch} {s0 : State} {D : va_G} {a0 : Array Value} {sh : List Sh} {f : Nat} {S : St} {t : Nat} {p1 : Int32} (ht : isX1 sh t) {r : Int32} (G : GC l s0 D a0) (hF : F_X1_isSide sh f S t p1 = some r) {d : Nat} (hd : 2 ≤ d) : Sp l s0 D d 0 0 mX1_isSide (fun v h => v = some (.int r) ∧ h = wd s0.heap.size sh S) v_noX [.ref (s0.heap.size + t), .int p1] (wd s0.heap.size sh S) := by
  obtain ⟨d, rfl⟩ : ∃ e, d = e + 1 := ⟨d - 1, by omega⟩
  refine Sp.of (by decide +kernel) rfl (Nat.le_of_ble_eq_true rfl) ?_
  unfold F_X1_isSide at hF
  refine V_iconst (v := 1) dX1_isSide_0 (by decide) ?_
  refine V_aload_n dX1_isSide_1 rfl ?_
  refine X_gI G dX1_isSide_2 fX1_18 ht.1 rfl ?_
  refine V_ishl dX1_isSide_5 ?_
  refine V_iconst (v := 1) dX1_isSide_6 (by decide) ?_
  refine V_isub dX1_isSide_7 ?_
  obtain ⟨x1, qx1, hF⟩ := bnd_g hF
  refine B_istore_n qx1 dX1_isSide_8 (by decide) ?_
  refine V_iload_n dX1_isSide_9 rfl ?_
  obtain ⟨y2, hc, hF⟩ := bd hF
  refine V_callS dX1_isSide_10 kX1_32 (s_J6_bitCount_0f7a4 G hc (by omega)) rfl (Nat.le_of_ble_eq_true rfl) (fun _ _ _ q => q.elim) ?_
  rintro _ _ ⟨rfl, rfl⟩
  refine V_istore_n dX1_isSide_13 (by decide) ?_
  refine V_iload_n dX1_isSide_14 rfl ?_
  refine V_iload_n dX1_isSide_15 rfl ?_
  refine V_iconst (v := -1) dX1_isSide_16 (by decide) ?_
  refine V_ixor dX1_isSide_17 ?_
  refine V_iand dX1_isSide_18 ?_
  refine V_if_ne (tgt := 47) dX1_isSide_19 (by decide) (fun c => ?_) (fun c => ?_)
  · replace hF := (if_neg c).symm.trans hF
    refine V_iconst (v := 0) dX1_isSide_47 (by decide) ?_
    cases hF
    exact V_ireturn dX1_isSide_48 rfl (by decide) ⟨rfl, rfl⟩
  · replace hF := (if_pos c).symm.trans hF
    refine V_iload_n dX1_isSide_22 rfl ?_
    refine V_iconst (v := 1) dX1_isSide_23 (by decide) ?_
    refine V_iand dX1_isSide_24 ?_
    refine V_if_eq (tgt := 47) dX1_isSide_25 (by decide) (fun c => ?_) (fun c => ?_)
    · replace hF := (if_pos c).symm.trans hF
      refine V_iconst (v := 0) dX1_isSide_47 (by decide) ?_
      cases hF
      exact V_ireturn dX1_isSide_48 rfl (by decide) ⟨rfl, rfl⟩
    · replace hF := (if_neg c).symm.trans hF
      refine V_iload_n dX1_isSide_28 rfl ?_
      refine V_iconst (v := 2) dX1_isSide_29 (by decide) ?_
      refine V_icmp_lt (tgt := 47) dX1_isSide_30 (by decide) (fun c => ?_) (fun c => ?_)
      · replace hF := (if_pos c).symm.trans hF
        refine V_iconst (v := 0) dX1_isSide_47 (by decide) ?_
        cases hF
        exact V_ireturn dX1_isSide_48 rfl (by decide) ⟨rfl, rfl⟩
      · replace hF := (if_neg c).symm.trans hF
        refine V_aload_n dX1_isSide_33 rfl ?_
        refine X_gI G dX1_isSide_34 fX1_18 ht.1 rfl ?_
        refine V_iload_n dX1_isSide_37 rfl ?_
        refine V_isub dX1_isSide_38 ?_
        refine V_iconst (v := 2) dX1_isSide_39 (by decide) ?_
        refine V_icmp_lt (tgt := 47) dX1_isSide_40 (by decide) (fun c => ?_) (fun c => ?_)
        · replace hF := (if_pos c).symm.trans hF
          refine V_iconst (v := 0) dX1_isSide_47 (by decide) ?_
          cases hF
          exact V_ireturn dX1_isSide_48 rfl (by decide) ⟨rfl, rfl⟩
        · replace hF := (if_neg c).symm.trans hF
          refine V_iconst (v := 1) dX1_isSide_43 (by decide) ?_
          refine V_goto (tgt := 48) dX1_isSide_44 (by decide) ?_
          cases hF
          exact V_ireturn dX1_isSide_48 rfl (by decide) ⟨rfl, rfl⟩
set_option maxRecDepth 100000 in
set_option maxHeartbeats 4000000 in
theorem s_X12_thrown {l : Launch} {s0 : State} {D : va_G} {a0 : Array Value} {sh : List Sh} {f : Nat} {S : St} {t : Nat} (ht : isX12 sh t) {r : Int32} (G : GC l s0 D a0) (hF : F_X12_thrown sh f S t = some r) {d : Nat} (hd : 1 ≤ d) : Sp l s0 D d 0 0 mX12_thrown (fun v h => v = some (.int r) ∧ h = wd s0.heap.size sh S) v_noX [.ref (s0.heap.size + t)] (wd s0.heap.size sh S) := by
  obtain ⟨d, rfl⟩ : ∃ e, d = e + 1 := ⟨d - 1, by omega⟩
  refine Sp.of (by decide +kernel) rfl (Nat.le_of_ble_eq_true rfl) ?_
  unfold F_X12_thrown at hF
  refine V_aload_n dX12_thrown_0 rfl ?_
  refine X_gI G dX12_thrown_1 fX12_147 ht.1 rfl ?_
  cases hF
  exact V_ireturn dX12_thrown_4 rfl rfl ⟨rfl, rfl⟩
set_option maxRecDepth 100000 in
set_option maxHeartbeats 4000000 in
theorem s_X12_refused {l : Launch} {s0 : State} {D : va_G} {a0 : Array Value} {sh : List Sh} {f : Nat} {S : St} {t : Nat} {p1 : Int32} (ht : isX12 sh t) {r : Int32 × St} (G : GC l s0 D a0) (hF : F_X12_refused sh f S t p1 = some r) {d : Nat} (hd : 1 ≤ d) : Sp l s0 D d 0 0 mX12_refused (fun v h => v = some (.int r.1) ∧ h = wd s0.heap.size sh r.2) v_noX [.ref (s0.heap.size + t), .int p1] (wd s0.heap.size sh S) := by
  obtain ⟨d, rfl⟩ : ∃ e, d = e + 1 := ⟨d - 1, by omega⟩
  refine Sp.of (by decide +kernel) rfl (Nat.le_of_ble_eq_true rfl) ?_
  unfold F_X12_refused at hF
  refine V_aload_n dX12_refused_0 rfl ?_
  refine V_iload_n dX12_refused_1 rfl ?_
  refine X_pI G dX12_refused_2 gX12_150 ht.1 rfl rfl rfl ?_
  obtain ⟨S1, qS1, hF⟩ := bnd_g hF
  refine V_eqS qS1 ?_
  refine V_aload_n dX12_refused_5 rfl ?_
  refine V_iconst (v := -1) dX12_refused_6 (by decide) ?_
  refine X_pI G dX12_refused_7 gX12_9 ht.1 rfl rfl rfl ?_
  obtain ⟨S2, qS2, hF⟩ := bnd_g hF
  refine V_eqS qS2 ?_
  refine V_aload_n dX12_refused_10 rfl ?_
  refine V_iconst (v := -1) dX12_refused_11 (by decide) ?_
  refine X_pI G dX12_refused_12 gX12_13 ht.1 rfl rfl rfl ?_
  obtain ⟨S3, qS3, hF⟩ := bnd_g hF
  refine V_eqS qS3 ?_
  refine V_iconst (v := -1) dX12_refused_15 (by decide) ?_
  cases hF
  exact V_ireturn dX12_refused_16 rfl rfl ⟨rfl, rfl⟩
set_option maxRecDepth 100000 in
set_option maxHeartbeats 4000000 in
theorem s_X12_denied {l : Launch} {s0 : State} {D : va_G} {a0 : Array Value} {sh : List Sh} {f : Nat} {S : St} {t : Nat} {p1 : Int32} (ht : isX12 sh t) {r : Int32 × St} (G : GC l s0 D a0) (hF : F_X12_denied sh f S t p1 = some r) {d : Nat} (hd : 1 ≤ d) : Sp l s0 D d 0 0 mX12_denied (fun v h => v = some (.int r.1) ∧ h = wd s0.heap.size sh r.2) v_noX [.ref (s0.heap.size + t), .int p1] (wd s0.heap.size sh S) := by
  obtain ⟨d, rfl⟩ : ∃ e, d = e + 1 := ⟨d - 1, by omega⟩
  refine Sp.of (by decide +kernel) rfl (Nat.le_of_ble_eq_true rfl) ?_
  unfold F_X12_denied at hF
  refine V_aload_n dX12_denied_0 rfl ?_
  refine V_iload_n dX12_denied_1 rfl ?_
  refine X_pI G dX12_denied_2 gX12_150 ht.1 rfl rfl rfl ?_
  obtain ⟨S1, qS1, hF⟩ := bnd_g hF
  refine V_eqS qS1 ?_
  refine V_aload_n dX12_denied_5 rfl ?_
  refine V_iconst (v := -1) dX12_denied_6 (by decide) ?_
  refine X_pI G dX12_denied_7 gX12_9 ht.1 rfl rfl rfl ?_
  obtain ⟨S2, qS2, hF⟩ := bnd_g hF
  refine V_eqS qS2 ?_
  refine V_aload_n dX12_denied_10 rfl ?_
  refine V_iconst (v := -1) dX12_denied_11 (by decide) ?_
  refine X_pI G dX12_denied_12 gX12_13 ht.1 rfl rfl rfl ?_
  obtain ⟨S3, qS3, hF⟩ := bnd_g hF
  refine V_eqS qS3 ?_
  refine V_iconst (v := 0) dX12_denied_15 (by decide) ?_
  cases hF
  exact V_ireturn dX12_denied_16 rfl (by decide) ⟨rfl, rfl⟩
set_option maxRecDepth 100000 in
set_option maxHeartbeats 4000000 in
theorem s_X12_done {l : Launch} {s0 : State} {D : va_G} {a0 : Array Value} {sh : List Sh} {f : Nat} {S : St} {t : Nat} {p1 : Int32} (ht : isX12 sh t) {r : Int32 × St} (G : GC l s0 D a0) (hF : F_X12_done sh f S t p1 = some r) {d : Nat} (hd : 1 ≤ d) : Sp l s0 D d 0 0 mX12_done (fun v h => v = some (.int r.1) ∧ h = wd s0.heap.size sh r.2) v_noX [.ref (s0.heap.size + t), .int p1] (wd s0.heap.size sh S) := by
  obtain ⟨d, rfl⟩ : ∃ e, d = e + 1 := ⟨d - 1, by omega⟩
  refine Sp.of (by decide +kernel) rfl (Nat.le_of_ble_eq_true rfl) ?_
  unfold F_X12_done at hF
  refine V_aload_n dX12_done_0 rfl ?_
  refine V_iconst (v := 0) dX12_done_1 (by decide) ?_
  refine X_pI G dX12_done_2 gX12_150 ht.1 rfl rfl rfl ?_
  obtain ⟨S1, qS1, hF⟩ := bnd_g hF
  refine V_eqS qS1 ?_
  refine V_aload_n dX12_done_5 rfl ?_
  refine V_iconst (v := -1) dX12_done_6 (by decide) ?_
  refine X_pI G dX12_done_7 gX12_9 ht.1 rfl rfl rfl ?_
  obtain ⟨S2, qS2, hF⟩ := bnd_g hF
  refine V_eqS qS2 ?_
  refine V_aload_n dX12_done_10 rfl ?_
  refine V_iconst (v := -1) dX12_done_11 (by decide) ?_
  refine X_pI G dX12_done_12 gX12_13 ht.1 rfl rfl rfl ?_
  obtain ⟨S3, qS3, hF⟩ := bnd_g hF
  refine V_eqS qS3 ?_
  refine V_iload_n dX12_done_15 rfl ?_
  cases hF
  exact V_ireturn dX12_done_16 rfl rfl ⟨rfl, rfl⟩
set_option maxRecDepth 100000 in
set_option maxHeartbeats 4000000 in
theorem s_X12_granted {l : Launch} {s0 : State} {D : va_G} {a0 : Array Value} {sh : List Sh} {f : Nat} {S : St} {t : Nat} (ht : isX12 sh t) {r : Int32 × St} (G : GC l s0 D a0) (hF : F_X12_granted sh f S t = some r) {d : Nat} (hd : 1 ≤ d) : Sp l s0 D d 0 0 mX12_granted (fun v h => v = some (.int r.1) ∧ h = wd s0.heap.size sh r.2) v_noX [.ref (s0.heap.size + t)] (wd s0.heap.size sh S) := by
  obtain ⟨d, rfl⟩ : ∃ e, d = e + 1 := ⟨d - 1, by omega⟩
  refine Sp.of (by decide +kernel) rfl (Nat.le_of_ble_eq_true rfl) ?_
  unfold F_X12_granted at hF
  refine V_aload_n dX12_granted_0 rfl ?_
  refine V_iconst (v := 0) dX12_granted_1 (by decide) ?_
  refine X_pI G dX12_granted_2 gX12_150 ht.1 rfl rfl rfl ?_
  obtain ⟨S1, qS1, hF⟩ := bnd_g hF
  refine V_eqS qS1 ?_
  refine V_aload_n dX12_granted_5 rfl ?_
  refine V_iconst (v := -1) dX12_granted_6 (by decide) ?_
  refine X_pI G dX12_granted_7 gX12_9 ht.1 rfl rfl rfl ?_
  obtain ⟨S2, qS2, hF⟩ := bnd_g hF
  refine V_eqS qS2 ?_
  refine V_aload_n dX12_granted_10 rfl ?_
  refine V_iconst (v := -1) dX12_granted_11 (by decide) ?_
  refine X_pI G dX12_granted_12 gX12_13 ht.1 rfl rfl rfl ?_
  obtain ⟨S3, qS3, hF⟩ := bnd_g hF
  refine V_eqS qS3 ?_
  refine V_iconst (v := 1) dX12_granted_15 (by decide) ?_
  cases hF
  exact V_ireturn dX12_granted_16 rfl (by decide) ⟨rfl, rfl⟩
set_option maxRecDepth 100000 in
set_option maxHeartbeats 4000000 in
theorem s_X12_in {l : Launch} {s0 : State} {D : va_G} {a0 : Array Value} {sh : List Sh} {f : Nat} {S : St} {p0 : Int32} {p1 : Int32} {p2 : Int32} {r : Int32} (G : GC l s0 D a0) (hF : F_X12_in sh f S p0 p1 p2 = some r) {d : Nat} (hd : 1 ≤ d) : Sp l s0 D d 0 0 mX12_in (fun v h => v = some (.int r) ∧ h = wd s0.heap.size sh S) v_noX [.int p0, .int p1, .int p2] (wd s0.heap.size sh S) := by
  obtain ⟨d, rfl⟩ : ∃ e, d = e + 1 := ⟨d - 1, by omega⟩
  refine Sp.of (by decide +kernel) rfl (Nat.le_of_ble_eq_true rfl) ?_
  unfold F_X12_in at hF
  refine V_iload_n dX12_in_0 rfl ?_
  refine V_iload_n dX12_in_1 rfl ?_
  refine V_icmp_lt (tgt := 14) dX12_in_2 (by decide) (fun c => ?_) (fun c => ?_)
  · replace hF := (if_pos c).symm.trans hF
    refine V_iconst (v := 0) dX12_in_14 (by decide) ?_
    cases hF
    exact V_ireturn dX12_in_15 rfl (by decide) ⟨rfl, rfl⟩
  · replace hF := (if_neg c).symm.trans hF
    refine V_iload_n dX12_in_5 rfl ?_
    refine V_iload_n dX12_in_6 rfl ?_
    refine V_icmp_gt (tgt := 14) dX12_in_7 (by decide) (fun c => ?_) (fun c => ?_)
    · replace hF := (if_pos c).symm.trans hF
      refine V_iconst (v := 0) dX12_in_14 (by decide) ?_
      cases hF
      exact V_ireturn dX12_in_15 rfl (by decide) ⟨rfl, rfl⟩
    · replace hF := (if_neg c).symm.trans hF
      refine V_iconst (v := 1) dX12_in_10 (by decide) ?_
      refine V_goto (tgt := 15) dX12_in_11 (by decide) ?_
      cases hF
      exact V_ireturn dX12_in_15 rfl (by decide) ⟨rfl, rfl⟩
set_option maxRecDepth 100000 in
set_option maxHeartbeats 4000000 in
theorem s_X12_byteAt {l : Launch} {s0 : State} {D : va_G} {a0 : Array Value} {sh : List Sh} {f : Nat} {S : St} {t : Nat} {p1 : Int32} (ht : isX12 sh t) {r : Int32} (G : GC l s0 D a0) (hF : F_X12_byteAt sh f S t p1 = some r) {d : Nat} (hd : 1 ≤ d) : Sp l s0 D d 0 0 mX12_byteAt (fun v h => v = some (.int r) ∧ h = wd s0.heap.size sh S) v_noX [.ref (s0.heap.size + t), .int p1] (wd s0.heap.size sh S) := by
  obtain ⟨d, rfl⟩ : ∃ e, d = e + 1 := ⟨d - 1, by omega⟩
  refine Sp.of (by decide +kernel) rfl (Nat.le_of_ble_eq_true rfl) ?_
  unfold F_X12_byteAt at hF
  refine V_iload_n dX12_byteAt_0 rfl ?_
  refine V_aload_n dX12_byteAt_1 rfl ?_
  refine X_gI G dX12_byteAt_2 fX12_164 ht.1 rfl ?_
  refine V_icmp_ge (tgt := 21) dX12_byteAt_5 (by decide) (fun c => ?_) (fun c => ?_)
  · replace hF := (if_pos c).symm.trans hF
    refine V_iconst (v := -1) dX12_byteAt_21 (by decide) ?_
    cases hF
    exact V_ireturn dX12_byteAt_22 rfl rfl ⟨rfl, rfl⟩
  · replace hF := (if_neg c).symm.trans hF
    refine V_aload_n dX12_byteAt_8 rfl ?_
    refine X_gC G dX12_byteAt_9 fX12_30 ht.1 rfl ?_
    refine V_iload_n dX12_byteAt_12 rfl ?_
    obtain ⟨hz, hF⟩ := gv_out hF
    refine X_bald dX12_byteAt_13 ht.2.2.1 hz ?_
    refine V_sipush (v := 255) dX12_byteAt_14 (by decide) ?_
    refine V_iand dX12_byteAt_17 ?_
    refine V_goto (tgt := 22) dX12_byteAt_18 (by decide) ?_
    cases hF
    exact V_ireturn dX12_byteAt_22 rfl rfl ⟨rfl, rfl⟩
set_option maxRecDepth 100000 in
set_option maxHeartbeats 4000000 in
theorem s_X12_isLetter {l : Launch} {s0 : State} {D : va_G} {a0 : Array Value} {sh : List Sh} {f : Nat} {S : St} {p0 : Int32} {r : Int32} (G : GC l s0 D a0) (hF : F_X12_isLetter sh f S p0 = some r) {d : Nat} (hd : 1 ≤ d) : Sp l s0 D d 0 0 mX12_isLetter (fun v h => v = some (.int r) ∧ h = wd s0.heap.size sh S) v_noX [.int p0] (wd s0.heap.size sh S) := by
  obtain ⟨d, rfl⟩ : ∃ e, d = e + 1 := ⟨d - 1, by omega⟩
  refine Sp.of (by decide +kernel) rfl (Nat.le_of_ble_eq_true rfl) ?_
  unfold F_X12_isLetter at hF
  refine V_iload_n dX12_isLetter_0 rfl ?_
  refine V_bipush (v := 97) dX12_isLetter_1 (by decide) ?_
  refine V_icmp_lt (tgt := 16) dX12_isLetter_3 (by decide) (fun c => ?_) (fun c => ?_)
  · replace hF := (if_pos c).symm.trans hF
    refine V_iconst (v := 0) dX12_isLetter_16 (by decide) ?_
    cases hF
    exact V_ireturn dX12_isLetter_17 rfl (by decide) ⟨rfl, rfl⟩
  · replace hF := (if_neg c).symm.trans hF
    refine V_iload_n dX12_isLetter_6 rfl ?_
    refine V_bipush (v := 122) dX12_isLetter_7 (by decide) ?_
    refine V_icmp_gt (tgt := 16) dX12_isLetter_9 (by decide) (fun c => ?_) (fun c => ?_)
    · replace hF := (if_pos c).symm.trans hF
      refine V_iconst (v := 0) dX12_isLetter_16 (by decide) ?_
      cases hF
      exact V_ireturn dX12_isLetter_17 rfl (by decide) ⟨rfl, rfl⟩
    · replace hF := (if_neg c).symm.trans hF
      refine V_iconst (v := 1) dX12_isLetter_12 (by decide) ?_
      refine V_goto (tgt := 17) dX12_isLetter_13 (by decide) ?_
      cases hF
      exact V_ireturn dX12_isLetter_17 rfl (by decide) ⟨rfl, rfl⟩
set_option maxRecDepth 100000 in
set_option maxHeartbeats 4000000 in
theorem s_X12_isDigit {l : Launch} {s0 : State} {D : va_G} {a0 : Array Value} {sh : List Sh} {f : Nat} {S : St} {p0 : Int32} {r : Int32} (G : GC l s0 D a0) (hF : F_X12_isDigit sh f S p0 = some r) {d : Nat} (hd : 1 ≤ d) : Sp l s0 D d 0 0 mX12_isDigit (fun v h => v = some (.int r) ∧ h = wd s0.heap.size sh S) v_noX [.int p0] (wd s0.heap.size sh S) := by
  obtain ⟨d, rfl⟩ : ∃ e, d = e + 1 := ⟨d - 1, by omega⟩
  refine Sp.of (by decide +kernel) rfl (Nat.le_of_ble_eq_true rfl) ?_
  unfold F_X12_isDigit at hF
  refine V_iload_n dX12_isDigit_0 rfl ?_
  refine V_bipush (v := 48) dX12_isDigit_1 (by decide) ?_
  refine V_icmp_lt (tgt := 16) dX12_isDigit_3 (by decide) (fun c => ?_) (fun c => ?_)
  · replace hF := (if_pos c).symm.trans hF
    refine V_iconst (v := 0) dX12_isDigit_16 (by decide) ?_
    cases hF
    exact V_ireturn dX12_isDigit_17 rfl (by decide) ⟨rfl, rfl⟩
  · replace hF := (if_neg c).symm.trans hF
    refine V_iload_n dX12_isDigit_6 rfl ?_
    refine V_bipush (v := 57) dX12_isDigit_7 (by decide) ?_
    refine V_icmp_gt (tgt := 16) dX12_isDigit_9 (by decide) (fun c => ?_) (fun c => ?_)
    · replace hF := (if_pos c).symm.trans hF
      refine V_iconst (v := 0) dX12_isDigit_16 (by decide) ?_
      cases hF
      exact V_ireturn dX12_isDigit_17 rfl (by decide) ⟨rfl, rfl⟩
    · replace hF := (if_neg c).symm.trans hF
      refine V_iconst (v := 1) dX12_isDigit_12 (by decide) ?_
      refine V_goto (tgt := 17) dX12_isDigit_13 (by decide) ?_
      cases hF
      exact V_ireturn dX12_isDigit_17 rfl (by decide) ⟨rfl, rfl⟩
set_option maxRecDepth 100000 in
set_option maxHeartbeats 4000000 in
theorem w_X12_next_L80 {l : Launch} {s0 : State} {D : va_G} {a0 : Array Value} {sh : List Sh} {f : Nat} {t : Nat} (ht : isX12 sh t) {r : St} {d : Nat} (G : GC l s0 D a0) (hd : 2 ≤ d + 1) : ∀ (n : Nat) (S : St) (l2 : Int32), F_X12_next_L80 sh f t n S l2 = some r → V l s0 D (d + 1) 0 0 mX12_next (fun v h => v = none ∧ h = wd s0.heap.size sh r) v_noX 80 [(0, .ref (s0.heap.size + t)), (2, .int l2)] [] (wd s0.heap.size sh S) := by
  intro n
  induction n with
  | zero => intro S l2 hF; cases hF
  | succ n ih =>
    intro S l2 hF
    unfold F_X12_next_L80 at hF
    refine V_aload_n dX12_next_80 rfl ?_
    refine V_aload_n dX12_next_81 rfl ?_
    refine X_gI G dX12_next_82 fX12_179 ht.1 rfl ?_
    obtain ⟨y1, hc, hF⟩ := bd hF
    refine V_callV G dX12_next_85 kX12_182 (wd_at ht.1) ⟨by decide, rfl⟩ (s_X12_byteAt ht G hc (by omega)) rfl (Nat.le_of_ble_eq_true rfl) (fun _ _ _ q => q.elim) ?_
    rintro _ _ ⟨rfl, rfl⟩
    obtain ⟨y2, hc, hF⟩ := bd hF
    refine V_callS dX12_next_88 kX12_192 (s_X12_isLetter G hc (by omega)) rfl (Nat.le_of_ble_eq_true rfl) (fun _ _ _ q => q.elim) ?_
    rintro _ _ ⟨rfl, rfl⟩
    refine V_if_eq (tgt := 143) dX12_next_91 (by decide) (fun c => ?_) (fun c => ?_)
    · replace hF := (if_pos c).symm.trans hF
      refine V_iload_n dX12_next_143 rfl ?_
      refine V_bipush (v := 8) dX12_next_144 (by decide) ?_
      refine V_icmp_gt (tgt := 272) dX12_next_146 (by decide) (fun c => ?_) (fun c => ?_)
      · replace hF := (if_pos c).symm.trans hF
        cases hF
        exact V_return dX12_next_272 rfl ⟨rfl, rfl⟩
      · replace hF := (if_neg c).symm.trans hF
        refine V_aload_n dX12_next_149 rfl ?_
        refine V_iconst (v := 2) dX12_next_150 (by decide) ?_
        refine X_pI G dX12_next_151 gX12_186 ht.1 rfl rfl rfl ?_
        obtain ⟨S3, qS3, hF⟩ := bnd_g hF
        refine V_eqS qS3 ?_
        refine V_goto (tgt := 272) dX12_next_154 (by decide) ?_
        cases hF
        exact V_return dX12_next_272 rfl ⟨rfl, rfl⟩
    · replace hF := (if_neg c).symm.trans hF
      refine V_iload_n dX12_next_94 rfl ?_
      refine V_bipush (v := 8) dX12_next_95 (by decide) ?_
      refine V_icmp_ge (tgt := 127) dX12_next_97 (by decide) (fun c => ?_) (fun c => ?_)
      · replace hF := (if_pos c).symm.trans hF
        obtain ⟨x4, qx4, hF⟩ := bnd_g hF
        refine B_iinc (v := 1) qx4 dX12_next_127 rfl (by decide) (by decide) ?_
        refine V_aload_n dX12_next_130 rfl ?_
        refine V_dup dX12_next_131 rfl ?_
        refine X_gI G dX12_next_132 fX12_179 ht.1 rfl ?_
        refine V_iconst (v := 1) dX12_next_135 (by decide) ?_
        refine V_iadd dX12_next_136 ?_
        refine X_pI G dX12_next_137 gX12_179 ht.1 rfl rfl rfl ?_
        obtain ⟨S5, qS5, hF⟩ := bnd_g hF
        refine V_eqS qS5 ?_
        refine V_goto (tgt := 80) dX12_next_140 (by decide) ?_
        exact V_lv' (ih _ _ hF) (v_all_c rfl (v_all_c rfl v_all_n))
      · replace hF := (if_neg c).symm.trans hF
        refine V_aload_n dX12_next_100 rfl ?_
        refine V_ldc2 dX12_next_101 qX12_173 ?_
        refine V_aload_n dX12_next_104 rfl ?_
        refine X_gJ G dX12_next_105 fX12_196 ht.1 rfl ?_
        refine V_lmul dX12_next_108 ?_
        refine V_aload_n dX12_next_109 rfl ?_
        refine V_aload_n dX12_next_110 rfl ?_
        refine X_gI G dX12_next_111 fX12_179 ht.1 rfl ?_
        obtain ⟨y6, hc, hF⟩ := bd hF
        refine V_callV G dX12_next_114 kX12_182 (wd_at ht.1) ⟨by decide, rfl⟩ (s_X12_byteAt ht G hc (by omega)) rfl (Nat.le_of_ble_eq_true rfl) (fun _ _ _ q => q.elim) ?_
        rintro _ _ ⟨rfl, rfl⟩
        refine V_bipush (v := 97) dX12_next_117 (by decide) ?_
        refine V_isub dX12_next_119 ?_
        refine V_iconst (v := 1) dX12_next_120 (by decide) ?_
        refine V_iadd dX12_next_121 ?_
        refine V_i2l dX12_next_122 ?_
        refine V_ladd dX12_next_123 ?_
        refine X_pJ G dX12_next_124 gX12_196 ht.1 rfl ?_
        obtain ⟨S7, qS7, hF⟩ := bnd_g hF
        refine V_eqS qS7 ?_
        obtain ⟨x8, qx8, hF⟩ := bnd_g hF
        refine B_iinc (v := 1) qx8 dX12_next_127 rfl (by decide) (by decide) ?_
        refine V_aload_n dX12_next_130 rfl ?_
        refine V_dup dX12_next_131 rfl ?_
        refine X_gI G dX12_next_132 fX12_179 ht.1 rfl ?_
        refine V_iconst (v := 1) dX12_next_135 (by decide) ?_
        refine V_iadd dX12_next_136 ?_
        refine X_pI G dX12_next_137 gX12_179 ht.1 rfl rfl rfl ?_
        obtain ⟨S9, qS9, hF⟩ := bnd_g hF
        refine V_eqS qS9 ?_
        refine V_goto (tgt := 80) dX12_next_140 (by decide) ?_
        exact V_lv' (ih _ _ hF) (v_all_c rfl (v_all_c rfl v_all_n))
set_option maxRecDepth 100000 in
set_option maxHeartbeats 4000000 in
theorem w_X12_next_L169 {l : Launch} {s0 : State} {D : va_G} {a0 : Array Value} {sh : List Sh} {f : Nat} {t : Nat} (ht : isX12 sh t) {r : St} {d : Nat} (G : GC l s0 D a0) (hd : 2 ≤ d + 1) : ∀ (n : Nat) (S : St) (l2 : Int32), F_X12_next_L169 sh f t n S l2 = some r → V l s0 D (d + 1) 0 0 mX12_next (fun v h => v = none ∧ h = wd s0.heap.size sh r) v_noX 169 [(0, .ref (s0.heap.size + t)), (2, .int l2)] [] (wd s0.heap.size sh S) := by
  intro n
  induction n with
  | zero => intro S l2 hF; cases hF
  | succ n ih =>
    intro S l2 hF
    unfold F_X12_next_L169 at hF
    refine V_aload_n dX12_next_169 rfl ?_
    refine V_aload_n dX12_next_170 rfl ?_
    refine X_gI G dX12_next_171 fX12_179 ht.1 rfl ?_
    obtain ⟨y1, hc, hF⟩ := bd hF
    refine V_callV G dX12_next_174 kX12_182 (wd_at ht.1) ⟨by decide, rfl⟩ (s_X12_byteAt ht G hc (by omega)) rfl (Nat.le_of_ble_eq_true rfl) (fun _ _ _ q => q.elim) ?_
    rintro _ _ ⟨rfl, rfl⟩
    obtain ⟨y2, hc, hF⟩ := bd hF
    refine V_callS dX12_next_177 kX12_199 (s_X12_isDigit G hc (by omega)) rfl (Nat.le_of_ble_eq_true rfl) (fun _ _ _ q => q.elim) ?_
    rintro _ _ ⟨rfl, rfl⟩
    refine V_if_eq (tgt := 227) dX12_next_180 (by decide) (fun c => ?_) (fun c => ?_)
    · replace hF := (if_pos c).symm.trans hF
      refine V_iload_n dX12_next_227 rfl ?_
      refine V_iconst (v := 4) dX12_next_228 (by decide) ?_
      refine V_icmp_ge (tgt := 272) dX12_next_229 (by decide) (fun c => ?_) (fun c => ?_)
      · replace hF := (if_pos c).symm.trans hF
        cases hF
        exact V_return dX12_next_272 rfl ⟨rfl, rfl⟩
      · replace hF := (if_neg c).symm.trans hF
        refine V_aload_n dX12_next_232 rfl ?_
        refine V_iconst (v := 3) dX12_next_233 (by decide) ?_
        refine X_pI G dX12_next_234 gX12_186 ht.1 rfl rfl rfl ?_
        obtain ⟨S3, qS3, hF⟩ := bnd_g hF
        refine V_eqS qS3 ?_
        refine V_goto (tgt := 272) dX12_next_237 (by decide) ?_
        cases hF
        exact V_return dX12_next_272 rfl ⟨rfl, rfl⟩
    · replace hF := (if_neg c).symm.trans hF
      refine V_iload_n dX12_next_183 rfl ?_
      refine V_iconst (v := 3) dX12_next_184 (by decide) ?_
      refine V_icmp_ge (tgt := 211) dX12_next_185 (by decide) (fun c => ?_) (fun c => ?_)
      · replace hF := (if_pos c).symm.trans hF
        obtain ⟨x4, qx4, hF⟩ := bnd_g hF
        refine B_iinc (v := 1) qx4 dX12_next_211 rfl (by decide) (by decide) ?_
        refine V_aload_n dX12_next_214 rfl ?_
        refine V_dup dX12_next_215 rfl ?_
        refine X_gI G dX12_next_216 fX12_179 ht.1 rfl ?_
        refine V_iconst (v := 1) dX12_next_219 (by decide) ?_
        refine V_iadd dX12_next_220 ?_
        refine X_pI G dX12_next_221 gX12_179 ht.1 rfl rfl rfl ?_
        obtain ⟨S5, qS5, hF⟩ := bnd_g hF
        refine V_eqS qS5 ?_
        refine V_goto (tgt := 169) dX12_next_224 (by decide) ?_
        exact V_lv' (ih _ _ hF) (v_all_c rfl (v_all_c rfl v_all_n))
      · replace hF := (if_neg c).symm.trans hF
        refine V_aload_n dX12_next_188 rfl ?_
        refine V_bipush (v := 10) dX12_next_189 (by decide) ?_
        refine V_aload_n dX12_next_191 rfl ?_
        refine X_gI G dX12_next_192 fX12_202 ht.1 rfl ?_
        refine V_imul dX12_next_195 ?_
        refine V_aload_n dX12_next_196 rfl ?_
        refine V_aload_n dX12_next_197 rfl ?_
        refine X_gI G dX12_next_198 fX12_179 ht.1 rfl ?_
        obtain ⟨y6, hc, hF⟩ := bd hF
        refine V_callV G dX12_next_201 kX12_182 (wd_at ht.1) ⟨by decide, rfl⟩ (s_X12_byteAt ht G hc (by omega)) rfl (Nat.le_of_ble_eq_true rfl) (fun _ _ _ q => q.elim) ?_
        rintro _ _ ⟨rfl, rfl⟩
        refine V_iadd dX12_next_204 ?_
        refine V_bipush (v := 48) dX12_next_205 (by decide) ?_
        refine V_isub dX12_next_207 ?_
        refine X_pI G dX12_next_208 gX12_202 ht.1 rfl rfl rfl ?_
        obtain ⟨S7, qS7, hF⟩ := bnd_g hF
        refine V_eqS qS7 ?_
        obtain ⟨x8, qx8, hF⟩ := bnd_g hF
        refine B_iinc (v := 1) qx8 dX12_next_211 rfl (by decide) (by decide) ?_
        refine V_aload_n dX12_next_214 rfl ?_
        refine V_dup dX12_next_215 rfl ?_
        refine X_gI G dX12_next_216 fX12_179 ht.1 rfl ?_
        refine V_iconst (v := 1) dX12_next_219 (by decide) ?_
        refine V_iadd dX12_next_220 ?_
        refine X_pI G dX12_next_221 gX12_179 ht.1 rfl rfl rfl ?_
        obtain ⟨S9, qS9, hF⟩ := bnd_g hF
        refine V_eqS qS9 ?_
        refine V_goto (tgt := 169) dX12_next_224 (by decide) ?_
        exact V_lv' (ih _ _ hF) (v_all_c rfl (v_all_c rfl v_all_n))
set_option maxRecDepth 100000 in
set_option maxHeartbeats 4000000 in
theorem w_X12_next_L0 {l : Launch} {s0 : State} {D : va_G} {a0 : Array Value} {sh : List Sh} {f : Nat} {t : Nat} (ht : isX12 sh t) {r : St} {d : Nat} (G : GC l s0 D a0) (hd : 2 ≤ d + 1) : ∀ (n : Nat) (S : St), F_X12_next_L0 sh f t n S = some r → V l s0 D (d + 1) 0 0 mX12_next (fun v h => v = none ∧ h = wd s0.heap.size sh r) v_noX 0 [(0, .ref (s0.heap.size + t))] [] (wd s0.heap.size sh S) := by
  intro n
  induction n with
  | zero => intro S hF; cases hF
  | succ n ih =>
    intro S hF
    unfold F_X12_next_L0 at hF
    refine V_aload_n dX12_next_0 rfl ?_
    refine V_aload_n dX12_next_1 rfl ?_
    refine X_gI G dX12_next_2 fX12_179 ht.1 rfl ?_
    obtain ⟨y1, hc, hF⟩ := bd hF
    refine V_callV G dX12_next_5 kX12_182 (wd_at ht.1) ⟨by decide, rfl⟩ (s_X12_byteAt ht G hc (by omega)) rfl (Nat.le_of_ble_eq_true rfl) (fun _ _ _ q => q.elim) ?_
    rintro _ _ ⟨rfl, rfl⟩
    refine V_bipush (v := 32) dX12_next_8 (by decide) ?_
    refine V_icmp_ne (tgt := 26) dX12_next_10 (by decide) (fun c => ?_) (fun c => ?_)
    · replace hF := (if_neg c).symm.trans hF
      refine V_aload_n dX12_next_26 rfl ?_
      refine V_aload_n dX12_next_27 rfl ?_
      refine X_gI G dX12_next_28 fX12_179 ht.1 rfl ?_
      refine X_pI G dX12_next_31 gX12_159 ht.1 rfl rfl rfl ?_
      obtain ⟨S2, qS2, hF⟩ := bnd_g hF
      refine V_eqS qS2 ?_
      refine V_aload_n dX12_next_34 rfl ?_
      refine V_iconst (v := 0) dX12_next_35 (by decide) ?_
      refine X_pI G dX12_next_36 gX12_186 ht.1 rfl rfl rfl ?_
      obtain ⟨S3, qS3, hF⟩ := bnd_g hF
      refine V_eqS qS3 ?_
      refine V_aload_n dX12_next_39 rfl ?_
      refine V_iconst (v := 0) dX12_next_40 (by decide) ?_
      refine X_pI G dX12_next_41 gX12_189 ht.1 rfl rfl rfl ?_
      obtain ⟨S4, qS4, hF⟩ := bnd_g hF
      refine V_eqS qS4 ?_
      refine V_aload_n dX12_next_44 rfl ?_
      refine V_aload_n dX12_next_45 rfl ?_
      refine X_gI G dX12_next_46 fX12_179 ht.1 rfl ?_
      obtain ⟨y5, hc, hF⟩ := bd hF
      refine V_callV G dX12_next_49 kX12_182 (wd_at ht.1) ⟨by decide, rfl⟩ (s_X12_byteAt ht G hc (by omega)) rfl (Nat.le_of_ble_eq_true rfl) (fun _ _ _ q => q.elim) ?_
      rintro _ _ ⟨rfl, rfl⟩
      refine V_istore_n dX12_next_52 (by decide) ?_
      refine V_iconst (v := 0) dX12_next_53 (by decide) ?_
      refine V_istore_n dX12_next_54 (by decide) ?_
      refine V_iload_n dX12_next_55 rfl ?_
      refine V_iconst (v := -1) dX12_next_56 (by decide) ?_
      refine V_icmp_ne (tgt := 68) dX12_next_57 (by decide) (fun c => ?_) (fun c => ?_)
      · replace hF := (if_neg c).symm.trans hF
        refine V_iload_n dX12_next_68 rfl ?_
        obtain ⟨y6, hc, hF⟩ := bd hF
        refine V_callS dX12_next_69 kX12_192 (s_X12_isLetter G hc (by omega)) rfl (Nat.le_of_ble_eq_true rfl) (fun _ _ _ q => q.elim) ?_
        rintro _ _ ⟨rfl, rfl⟩
        refine V_if_eq (tgt := 157) dX12_next_72 (by decide) (fun c => ?_) (fun c => ?_)
        · replace hF := (if_pos c).symm.trans hF
          refine V_iload_n dX12_next_157 rfl ?_
          obtain ⟨y7, hc, hF⟩ := bd hF
          refine V_callS dX12_next_158 kX12_199 (s_X12_isDigit G hc (by omega)) rfl (Nat.le_of_ble_eq_true rfl) (fun _ _ _ q => q.elim) ?_
          rintro _ _ ⟨rfl, rfl⟩
          refine V_if_eq (tgt := 240) dX12_next_161 (by decide) (fun c => ?_) (fun c => ?_)
          · replace hF := (if_pos c).symm.trans hF
            refine V_iload_n dX12_next_240 rfl ?_
            refine V_bipush (v := 59) dX12_next_241 (by decide) ?_
            refine V_icmp_eq (tgt := 252) dX12_next_243 (by decide) (fun c => ?_) (fun c => ?_)
            · replace hF := (if_pos c).symm.trans hF
              refine V_aload_n dX12_next_252 rfl ?_
              refine V_iconst (v := 4) dX12_next_253 (by decide) ?_
              refine X_pI G dX12_next_254 gX12_186 ht.1 rfl rfl rfl ?_
              obtain ⟨S8, qS8, hF⟩ := bnd_g hF
              refine V_eqS qS8 ?_
              refine V_aload_n dX12_next_257 rfl ?_
              refine V_iload_n dX12_next_258 rfl ?_
              refine X_pI G dX12_next_259 gX12_189 ht.1 rfl rfl rfl ?_
              obtain ⟨S9, qS9, hF⟩ := bnd_g hF
              refine V_eqS qS9 ?_
              refine V_aload_n dX12_next_262 rfl ?_
              refine V_dup dX12_next_263 rfl ?_
              refine X_gI G dX12_next_264 fX12_179 ht.1 rfl ?_
              refine V_iconst (v := 1) dX12_next_267 (by decide) ?_
              refine V_iadd dX12_next_268 ?_
              refine X_pI G dX12_next_269 gX12_179 ht.1 rfl rfl rfl ?_
              obtain ⟨S10, qS10, hF⟩ := bnd_g hF
              refine V_eqS qS10 ?_
              cases hF
              exact V_return dX12_next_272 rfl ⟨rfl, rfl⟩
            · replace hF := (if_neg c).symm.trans hF
              refine V_iload_n dX12_next_246 rfl ?_
              refine V_bipush (v := 45) dX12_next_247 (by decide) ?_
              refine V_icmp_ne (tgt := 272) dX12_next_249 (by decide) (fun c => ?_) (fun c => ?_)
              · replace hF := (if_neg c).symm.trans hF
                cases hF
                exact V_return dX12_next_272 rfl ⟨rfl, rfl⟩
              · replace hF := (if_pos c).symm.trans hF
                refine V_aload_n dX12_next_252 rfl ?_
                refine V_iconst (v := 4) dX12_next_253 (by decide) ?_
                refine X_pI G dX12_next_254 gX12_186 ht.1 rfl rfl rfl ?_
                obtain ⟨S11, qS11, hF⟩ := bnd_g hF
                refine V_eqS qS11 ?_
                refine V_aload_n dX12_next_257 rfl ?_
                refine V_iload_n dX12_next_258 rfl ?_
                refine X_pI G dX12_next_259 gX12_189 ht.1 rfl rfl rfl ?_
                obtain ⟨S12, qS12, hF⟩ := bnd_g hF
                refine V_eqS qS12 ?_
                refine V_aload_n dX12_next_262 rfl ?_
                refine V_dup dX12_next_263 rfl ?_
                refine X_gI G dX12_next_264 fX12_179 ht.1 rfl ?_
                refine V_iconst (v := 1) dX12_next_267 (by decide) ?_
                refine V_iadd dX12_next_268 ?_
                refine X_pI G dX12_next_269 gX12_179 ht.1 rfl rfl rfl ?_
                obtain ⟨S13, qS13, hF⟩ := bnd_g hF
                refine V_eqS qS13 ?_
                cases hF
                exact V_return dX12_next_272 rfl ⟨rfl, rfl⟩
          · replace hF := (if_neg c).symm.trans hF
            refine V_aload_n dX12_next_164 rfl ?_
            refine V_iconst (v := 0) dX12_next_165 (by decide) ?_
            refine X_pI G dX12_next_166 gX12_202 ht.1 rfl rfl rfl ?_
            obtain ⟨S14, qS14, hF⟩ := bnd_g hF
            refine V_eqS qS14 ?_
            exact V_lv' (w_X12_next_L169 ht G hd f _ _ hF) (v_all_c rfl (v_all_c rfl v_all_n))
        · replace hF := (if_neg c).symm.trans hF
          refine V_aload_n dX12_next_75 rfl ?_
          refine V_lconst (v := 0) dX12_next_76 (by decide) ?_
          refine X_pJ G dX12_next_77 gX12_196 ht.1 rfl ?_
          obtain ⟨S15, qS15, hF⟩ := bnd_g hF
          refine V_eqS qS15 ?_
          exact V_lv' (w_X12_next_L80 ht G hd f _ _ hF) (v_all_c rfl (v_all_c rfl v_all_n))
      · replace hF := (if_pos c).symm.trans hF
        refine V_aload_n dX12_next_60 rfl ?_
        refine V_iconst (v := 1) dX12_next_61 (by decide) ?_
        refine X_pI G dX12_next_62 gX12_186 ht.1 rfl rfl rfl ?_
        obtain ⟨S16, qS16, hF⟩ := bnd_g hF
        refine V_eqS qS16 ?_
        refine V_goto (tgt := 272) dX12_next_65 (by decide) ?_
        cases hF
        exact V_return dX12_next_272 rfl ⟨rfl, rfl⟩
    · replace hF := (if_pos c).symm.trans hF
      refine V_aload_n dX12_next_13 rfl ?_
      refine V_dup dX12_next_14 rfl ?_
      refine X_gI G dX12_next_15 fX12_179 ht.1 rfl ?_
      refine V_iconst (v := 1) dX12_next_18 (by decide) ?_
      refine V_iadd dX12_next_19 ?_
      refine X_pI G dX12_next_20 gX12_179 ht.1 rfl rfl rfl ?_
      obtain ⟨S17, qS17, hF⟩ := bnd_g hF
      refine V_eqS qS17 ?_
      refine V_goto (tgt := 0) dX12_next_23 (by decide) ?_
      exact V_lv' (ih _ hF) (v_all_c rfl v_all_n)
set_option maxRecDepth 100000 in
set_option maxHeartbeats 4000000 in
theorem s_X12_next {l : Launch} {s0 : State} {D : va_G} {a0 : Array Value} {sh : List Sh} {f : Nat} {S : St} {t : Nat} (ht : isX12 sh t) {r : St} (G : GC l s0 D a0) (hF : F_X12_next sh f S t = some r) {d : Nat} (hd : 2 ≤ d) : Sp l s0 D d 0 0 mX12_next (fun v h => v = none ∧ h = wd s0.heap.size sh r) v_noX [.ref (s0.heap.size + t)] (wd s0.heap.size sh S) := by
  obtain ⟨d, rfl⟩ : ∃ e, d = e + 1 := ⟨d - 1, by omega⟩
  refine Sp.of (by decide +kernel) rfl (Nat.le_of_ble_eq_true rfl) ?_
  unfold F_X12_next at hF
  exact V_lv' (w_X12_next_L0 ht G hd f _ hF) (v_all_c rfl v_all_n)
set_option maxRecDepth 100000 in
set_option maxHeartbeats 4000000 in
theorem s_X12_is {l : Launch} {s0 : State} {D : va_G} {a0 : Array Value} {sh : List Sh} {f : Nat} {S : St} {t : Nat} {p1 : Int32} (ht : isX12 sh t) {r : Int32} (G : GC l s0 D a0) (hF : F_X12_is sh f S t p1 = some r) {d : Nat} (hd : 1 ≤ d) : Sp l s0 D d 0 0 mX12_is (fun v h => v = some (.int r) ∧ h = wd s0.heap.size sh S) v_noX [.ref (s0.heap.size + t), .int p1] (wd s0.heap.size sh S) := by
  obtain ⟨d, rfl⟩ : ∃ e, d = e + 1 := ⟨d - 1, by omega⟩
  refine Sp.of (by decide +kernel) rfl (Nat.le_of_ble_eq_true rfl) ?_
  unfold F_X12_is at hF
  refine V_aload_n dX12_is_0 rfl ?_
  refine X_gI G dX12_is_1 fX12_186 ht.1 rfl ?_
  refine V_iconst (v := 4) dX12_is_4 (by decide) ?_
  refine V_icmp_ne (tgt := 20) dX12_is_5 (by decide) (fun c => ?_) (fun c => ?_)
  · replace hF := (if_neg c).symm.trans hF
    refine V_iconst (v := 0) dX12_is_20 (by decide) ?_
    cases hF
    exact V_ireturn dX12_is_21 rfl (by decide) ⟨rfl, rfl⟩
  · replace hF := (if_pos c).symm.trans hF
    refine V_aload_n dX12_is_8 rfl ?_
    refine X_gI G dX12_is_9 fX12_189 ht.1 rfl ?_
    refine V_iload_n dX12_is_12 rfl ?_
    refine V_icmp_ne (tgt := 20) dX12_is_13 (by decide) (fun c => ?_) (fun c => ?_)
    · replace hF := (if_neg c).symm.trans hF
      refine V_iconst (v := 0) dX12_is_20 (by decide) ?_
      cases hF
      exact V_ireturn dX12_is_21 rfl (by decide) ⟨rfl, rfl⟩
    · replace hF := (if_pos c).symm.trans hF
      refine V_iconst (v := 1) dX12_is_16 (by decide) ?_
      refine V_goto (tgt := 21) dX12_is_17 (by decide) ?_
      cases hF
      exact V_ireturn dX12_is_21 rfl (by decide) ⟨rfl, rfl⟩
set_option maxRecDepth 100000 in
set_option maxHeartbeats 4000000 in
theorem w_X12_isEven_L76 {l : Launch} {s0 : State} {D : va_G} {a0 : Array Value} {sh : List Sh} {f : Nat} {S : St} {t : Nat} {p1 : Int32} (ht : isX12 sh t) {r : Int32} {d : Nat} (G : GC l s0 D a0) (hd : 1 ≤ d + 1) {k10 : Int32 → Int32 → Int32 → Int32 → Option (Int32)} (hk10 : ∀ (l2 : Int32) (l3 : Int32) (l4 : Int32) (l5 : Int32), k10 l2 l3 l4 l5 = some r → V l s0 D (d + 1) 0 0 mX12_isEven (fun v h => v = some (.int r) ∧ h = wd s0.heap.size sh S) v_noX 10 [(0, .ref (s0.heap.size + t)), (1, .int p1), (2, .int l2), (3, .int l3), (4, .int l4), (5, .int l5)] [] (wd s0.heap.size sh S)) : ∀ (n : Nat) (l2 : Int32) (l3 : Int32) (l4 : Int32) (l5 : Int32) (l6 : Int32) (l7 : Int32), F_X12_isEven_L76 sh f S t p1 k10 n l2 l3 l4 l5 l6 l7 = some r → V l s0 D (d + 1) 0 0 mX12_isEven (fun v h => v = some (.int r) ∧ h = wd s0.heap.size sh S) v_noX 76 [(0, .ref (s0.heap.size + t)), (1, .int p1), (2, .int l2), (3, .int l3), (4, .int l4), (5, .int l5), (6, .int l6), (7, .int l7)] [] (wd s0.heap.size sh S) := by
  intro n
  induction n with
  | zero => intro l2 l3 l4 l5 l6 l7 hF; cases hF
  | succ n ih =>
    intro l2 l3 l4 l5 l6 l7 hF
    unfold F_X12_isEven_L76 at hF
    refine V_iload dX12_isEven_76 rfl ?_
    refine V_iload dX12_isEven_78 rfl ?_
    refine V_icmp_ge (tgt := 120) dX12_isEven_80 (by decide) (fun c => ?_) (fun c => ?_)
    · replace hF := (if_pos c).symm.trans hF
      obtain ⟨x1, qx1, hF⟩ := bnd_g hF
      refine B_iinc (v := 1) qx1 dX12_isEven_120 rfl (by decide) (by decide) ?_
      refine V_goto (tgt := 10) dX12_isEven_123 (by decide) ?_
      exact V_lv' (hk10 _ _ _ _ hF) (v_all_c rfl (v_all_c rfl (v_all_c rfl (v_all_c rfl (v_all_c rfl (v_all_c rfl v_all_n))))))
    · replace hF := (if_neg c).symm.trans hF
      refine V_iload dX12_isEven_83 rfl ?_
      refine V_if_eq (tgt := 111) dX12_isEven_85 (by decide) (fun c => ?_) (fun c => ?_)
      · replace hF := (if_pos c).symm.trans hF
        refine V_iconst (v := 0) dX12_isEven_111 (by decide) ?_
        refine V_istore dX12_isEven_112 (by decide) ?_
        obtain ⟨x2, qx2, hF⟩ := bnd_g hF
        refine B_iinc (v := 1) qx2 dX12_isEven_114 rfl (by decide) (by decide) ?_
        refine V_goto (tgt := 76) dX12_isEven_117 (by decide) ?_
        exact V_lv' (ih _ _ _ _ _ _ hF) (v_all_c rfl (v_all_c rfl (v_all_c rfl (v_all_c rfl (v_all_c rfl (v_all_c rfl (v_all_c rfl (v_all_c rfl v_all_n))))))))
      · replace hF := (if_neg c).symm.trans hF
        refine V_aload_n dX12_isEven_88 rfl ?_
        obtain ⟨b3, hrb3, hF⟩ := bd hF
        obtain ⟨hb3, hF⟩ := gv_in hF
        replace hb3 := ckX9_ok hb3
        refine X_gR G dX12_isEven_89 fX12_19 ht.1 rfl hrb3 ?_
        refine X_gC G dX12_isEven_92 fX12_281 hb3.1 rfl ?_
        refine V_iconst (v := 4) dX12_isEven_95 (by decide) ?_
        refine V_iload_n dX12_isEven_96 rfl ?_
        refine V_imul dX12_isEven_97 ?_
        refine V_iload dX12_isEven_98 rfl ?_
        refine V_iadd dX12_isEven_100 ?_
        obtain ⟨hz, hF⟩ := gv_out hF
        refine X_iald dX12_isEven_101 hb3.2.2.2.2.2.2.2.1 hz ?_
        refine V_iload dX12_isEven_102 rfl ?_
        refine V_icmp_eq (tgt := 111) dX12_isEven_104 (by decide) (fun c => ?_) (fun c => ?_)
        · replace hF := (if_pos c).symm.trans hF
          refine V_iconst (v := 0) dX12_isEven_111 (by decide) ?_
          refine V_istore dX12_isEven_112 (by decide) ?_
          obtain ⟨x4, qx4, hF⟩ := bnd_g hF
          refine B_iinc (v := 1) qx4 dX12_isEven_114 rfl (by decide) (by decide) ?_
          refine V_goto (tgt := 76) dX12_isEven_117 (by decide) ?_
          exact V_lv' (ih _ _ _ _ _ _ hF) (v_all_c rfl (v_all_c rfl (v_all_c rfl (v_all_c rfl (v_all_c rfl (v_all_c rfl (v_all_c rfl (v_all_c rfl v_all_n))))))))
        · replace hF := (if_neg c).symm.trans hF
          refine V_iconst (v := 1) dX12_isEven_107 (by decide) ?_
          refine V_goto (tgt := 112) dX12_isEven_108 (by decide) ?_
          refine V_istore dX12_isEven_112 (by decide) ?_
          obtain ⟨x5, qx5, hF⟩ := bnd_g hF
          refine B_iinc (v := 1) qx5 dX12_isEven_114 rfl (by decide) (by decide) ?_
          refine V_goto (tgt := 76) dX12_isEven_117 (by decide) ?_
          exact V_lv' (ih _ _ _ _ _ _ hF) (v_all_c rfl (v_all_c rfl (v_all_c rfl (v_all_c rfl (v_all_c rfl (v_all_c rfl (v_all_c rfl (v_all_c rfl v_all_n))))))))
set_option maxRecDepth 100000 in
set_option maxHeartbeats 4000000 in
theorem w_X12_isEven_L10 {l : Launch} {s0 : State} {D : va_G} {a0 : Array Value} {sh : List Sh} {f : Nat} {S : St} {t : Nat} {p1 : Int32} (ht : isX12 sh t) {r : Int32} {d : Nat} (G : GC l s0 D a0) (hd : 1 ≤ d + 1) : ∀ (n : Nat) (l2 : Int32) (l3 : Int32) (l4 : Int32) (l5 : Int32), F_X12_isEven_L10 sh f S t p1 n l2 l3 l4 l5 = some r → V l s0 D (d + 1) 0 0 mX12_isEven (fun v h => v = some (.int r) ∧ h = wd s0.heap.size sh S) v_noX 10 [(0, .ref (s0.heap.size + t)), (1, .int p1), (2, .int l2), (3, .int l3), (4, .int l4), (5, .int l5)] [] (wd s0.heap.size sh S) := by
  intro n
  induction n with
  | zero => intro l2 l3 l4 l5 hF; cases hF
  | succ n ih =>
    intro l2 l3 l4 l5 hF
    unfold F_X12_isEven_L10 at hF
    refine V_iload dX12_isEven_10 rfl ?_
    refine V_aload_n dX12_isEven_12 rfl ?_
    obtain ⟨b1, hrb1, hF⟩ := bd hF
    obtain ⟨hb1, hF⟩ := gv_in hF
    replace hb1 := ckX9_ok hb1
    refine X_gR G dX12_isEven_13 fX12_19 ht.1 rfl hrb1 ?_
    refine X_gC G dX12_isEven_16 fX12_284 hb1.1 rfl ?_
    refine V_iload_n dX12_isEven_19 rfl ?_
    obtain ⟨hz, hF⟩ := gv_out hF
    refine X_iald dX12_isEven_20 hb1.2.2.2.2.2.2.1 hz ?_
    refine V_icmp_ge (tgt := 126) dX12_isEven_21 (by decide) (fun c => ?_) (fun c => ?_)
    · replace hF := (if_pos c).symm.trans hF
      refine V_iload dX12_isEven_126 rfl ?_
      refine V_if_eq (tgt := 145) dX12_isEven_128 (by decide) (fun c => ?_) (fun c => ?_)
      · replace hF := (if_pos c).symm.trans hF
        refine V_iconst (v := 0) dX12_isEven_145 (by decide) ?_
        cases hF
        exact V_ireturn dX12_isEven_146 rfl (by decide) ⟨rfl, rfl⟩
      · replace hF := (if_neg c).symm.trans hF
        refine V_iload_n dX12_isEven_131 rfl ?_
        refine V_if_ne (tgt := 145) dX12_isEven_132 (by decide) (fun c => ?_) (fun c => ?_)
        · replace hF := (if_neg c).symm.trans hF
          refine V_iconst (v := 0) dX12_isEven_145 (by decide) ?_
          cases hF
          exact V_ireturn dX12_isEven_146 rfl (by decide) ⟨rfl, rfl⟩
        · replace hF := (if_pos c).symm.trans hF
          refine V_iload_n dX12_isEven_135 rfl ?_
          refine V_iconst (v := 2) dX12_isEven_136 (by decide) ?_
          refine V_irem dX12_isEven_137 (by decide) ?_
          refine V_if_ne (tgt := 145) dX12_isEven_138 (by decide) (fun c => ?_) (fun c => ?_)
          · replace hF := (if_neg c).symm.trans hF
            refine V_iconst (v := 0) dX12_isEven_145 (by decide) ?_
            cases hF
            exact V_ireturn dX12_isEven_146 rfl (by decide) ⟨rfl, rfl⟩
          · replace hF := (if_pos c).symm.trans hF
            refine V_iconst (v := 1) dX12_isEven_141 (by decide) ?_
            refine V_goto (tgt := 146) dX12_isEven_142 (by decide) ?_
            cases hF
            exact V_ireturn dX12_isEven_146 rfl (by decide) ⟨rfl, rfl⟩
    · replace hF := (if_neg c).symm.trans hF
      refine V_aload_n dX12_isEven_24 rfl ?_
      obtain ⟨b2, hrb2, hF⟩ := bd hF
      obtain ⟨hb2, hF⟩ := gv_in hF
      replace hb2 := ckX9_ok hb2
      refine X_gR G dX12_isEven_25 fX12_19 ht.1 rfl hrb2 ?_
      refine X_gC G dX12_isEven_28 fX12_281 hb2.1 rfl ?_
      refine V_iconst (v := 4) dX12_isEven_31 (by decide) ?_
      refine V_iload_n dX12_isEven_32 rfl ?_
      refine V_imul dX12_isEven_33 ?_
      refine V_iload dX12_isEven_34 rfl ?_
      refine V_iadd dX12_isEven_36 ?_
      obtain ⟨hz, hF⟩ := gv_out hF
      refine X_iald dX12_isEven_37 hb2.2.2.2.2.2.2.2.1 hz ?_
      obtain ⟨x3, qx3, hF⟩ := bnd_g hF
      refine B_istore qx3 dX12_isEven_38 (by decide) ?_
      refine V_iload_n dX12_isEven_40 rfl ?_
      refine V_aload_n dX12_isEven_41 rfl ?_
      obtain ⟨b4, hrb4, hF⟩ := bd hF
      obtain ⟨hb4, hF⟩ := gv_in hF
      replace hb4 := ckX9_ok hb4
      refine X_gR G dX12_isEven_42 fX12_19 ht.1 rfl hrb4 ?_
      refine X_gC G dX12_isEven_45 fX12_255 hb4.1 rfl ?_
      refine V_iload dX12_isEven_48 rfl ?_
      obtain ⟨hz, hF⟩ := gv_out hF
      refine X_iald dX12_isEven_50 hb4.2.2.2.2.1 hz ?_
      refine V_iadd dX12_isEven_51 ?_
      obtain ⟨x5, qx5, hF⟩ := bnd_g hF
      refine B_istore_n qx5 dX12_isEven_52 (by decide) ?_
      refine V_aload_n dX12_isEven_53 rfl ?_
      obtain ⟨b6, hrb6, hF⟩ := bd hF
      obtain ⟨hb6, hF⟩ := gv_in hF
      replace hb6 := ckX9_ok hb6
      refine X_gR G dX12_isEven_54 fX12_19 ht.1 rfl hrb6 ?_
      refine X_gC G dX12_isEven_57 fX12_250 hb6.1 rfl ?_
      refine V_iload dX12_isEven_60 rfl ?_
      obtain ⟨hz, hF⟩ := gv_out hF
      refine X_iald dX12_isEven_62 hb6.2.2.2.2.2.1 hz ?_
      refine V_iconst (v := 2) dX12_isEven_63 (by decide) ?_
      refine V_icmp_eq (tgt := 70) dX12_isEven_64 (by decide) (fun c => ?_) (fun c => ?_)
      · replace hF := (if_pos c).symm.trans hF
        obtain ⟨x7, qx7, hF⟩ := bnd_g hF
        refine B_iinc (v := 1) qx7 dX12_isEven_70 rfl (by decide) (by decide) ?_
        refine V_iconst (v := 0) dX12_isEven_73 (by decide) ?_
        refine V_istore dX12_isEven_74 (by decide) ?_
        exact V_lv' (w_X12_isEven_L76 ht G hd ih f _ _ _ _ _ _ hF) (v_all_c rfl (v_all_c rfl (v_all_c rfl (v_all_c rfl (v_all_c rfl (v_all_c rfl (v_all_c rfl (v_all_c rfl v_all_n))))))))
      · replace hF := (if_neg c).symm.trans hF
        refine V_goto (tgt := 120) dX12_isEven_67 (by decide) ?_
        obtain ⟨x8, qx8, hF⟩ := bnd_g hF
        refine B_iinc (v := 1) qx8 dX12_isEven_120 rfl (by decide) (by decide) ?_
        refine V_goto (tgt := 10) dX12_isEven_123 (by decide) ?_
        exact V_lv' (ih _ _ _ _ hF) (v_all_c rfl (v_all_c rfl (v_all_c rfl (v_all_c rfl (v_all_c rfl (v_all_c rfl v_all_n))))))
set_option maxRecDepth 100000 in
set_option maxHeartbeats 4000000 in
theorem s_X12_isEven {l : Launch} {s0 : State} {D : va_G} {a0 : Array Value} {sh : List Sh} {f : Nat} {S : St} {t : Nat} {p1 : Int32} (ht : isX12 sh t) {r : Int32} (G : GC l s0 D a0) (hF : F_X12_isEven sh f S t p1 = some r) {d : Nat} (hd : 1 ≤ d) : Sp l s0 D d 0 0 mX12_isEven (fun v h => v = some (.int r) ∧ h = wd s0.heap.size sh S) v_noX [.ref (s0.heap.size + t), .int p1] (wd s0.heap.size sh S) := by
  obtain ⟨d, rfl⟩ : ∃ e, d = e + 1 := ⟨d - 1, by omega⟩
  refine Sp.of (by decide +kernel) rfl (Nat.le_of_ble_eq_true rfl) ?_
  unfold F_X12_isEven at hF
  refine V_iconst (v := 0) dX12_isEven_0 (by decide) ?_
  refine V_istore_n dX12_isEven_1 (by decide) ?_
  refine V_iconst (v := 0) dX12_isEven_2 (by decide) ?_
  refine V_istore_n dX12_isEven_3 (by decide) ?_
  refine V_iconst (v := 1) dX12_isEven_4 (by decide) ?_
  refine V_istore dX12_isEven_5 (by decide) ?_
  refine V_iconst (v := 0) dX12_isEven_7 (by decide) ?_
  refine V_istore dX12_isEven_8 (by decide) ?_
  exact V_lv' (w_X12_isEven_L10 ht G hd f _ _ _ _ hF) (v_all_c rfl (v_all_c rfl (v_all_c rfl (v_all_c rfl (v_all_c rfl (v_all_c rfl v_all_n))))))
set_option maxRecDepth 100000 in
set_option maxHeartbeats 4000000 in
theorem w_X12_feed_L76 {l : Launch} {s0 : State} {D : va_G} {a0 : Array Value} {sh : List Sh} {f : Nat} {t : Nat} {p1 : Int32} {p2 : Int32} {p3 : Int32} {p4 : Int32} {p5 : Int32} (ht : isX12 sh t) {r : Int32 × St} {d : Nat} (G : GC l s0 D a0) (hd : 1 ≤ d + 1) {k23 : St → Int32 → Option (Int32 × St)} (hk23 : ∀ (S : St) (l6 : Int32), k23 S l6 = some r → V l s0 D (d + 1) 0 0 mX12_feed (fun v h => v = some (.int r.1) ∧ h = wd s0.heap.size sh r.2) v_noX 23 [(0, .ref (s0.heap.size + t)), (1, .int p1), (2, .int p2), (3, .int p3), (4, .int p4), (5, .int p5), (6, .int l6)] [] (wd s0.heap.size sh S)) : ∀ (S : St) (l6 : Int32) (v0 : Int32), F_X12_feed_L76 sh f t p1 p2 p3 p4 p5 k23 S l6 v0 = some r → V l s0 D (d + 1) 0 0 mX12_feed (fun v h => v = some (.int r.1) ∧ h = wd s0.heap.size sh r.2) v_noX 76 [(0, .ref (s0.heap.size + t)), (1, .int p1), (2, .int p2), (3, .int p3), (4, .int p4), (5, .int p5), (6, .int l6)] [.int v0] (wd s0.heap.size sh S) := by
  intro S l6 v0 hF
  unfold F_X12_feed_L76 at hF
  refine V_istore dX12_feed_76 (by decide) ?_
  refine V_aload_n dX12_feed_78 rfl ?_
  refine X_gC G dX12_feed_79 fX12_30 ht.1 rfl ?_
  refine V_aload_n dX12_feed_82 rfl ?_
  refine X_gI G dX12_feed_83 fX12_300 ht.1 rfl ?_
  refine V_iload dX12_feed_86 rfl ?_
  refine V_bipush (v := 24) dX12_feed_88 (by decide) ?_
  refine V_bipush (v := 8) dX12_feed_90 (by decide) ?_
  refine V_iload dX12_feed_92 rfl ?_
  refine V_iconst (v := 4) dX12_feed_94 (by decide) ?_
  refine V_irem dX12_feed_95 (by decide) ?_
  refine V_imul dX12_feed_96 ?_
  refine V_isub dX12_feed_97 ?_
  refine V_ishr dX12_feed_98 ?_
  refine V_i2b dX12_feed_99 ?_
  obtain ⟨hz, hF⟩ := gv_out hF
  refine X_bast dX12_feed_100 ht.2.2.1 hz ?_
  obtain ⟨S1, qS1, hF⟩ := bnd_g hF
  refine V_eqS qS1 ?_
  refine V_aload_n dX12_feed_101 rfl ?_
  refine V_dup dX12_feed_102 rfl ?_
  refine X_gI G dX12_feed_103 fX12_300 ht.1 rfl ?_
  refine V_iconst (v := 1) dX12_feed_106 (by decide) ?_
  refine V_iadd dX12_feed_107 ?_
  refine X_pI G dX12_feed_108 gX12_300 ht.1 rfl rfl rfl ?_
  obtain ⟨S2, qS2, hF⟩ := bnd_g hF
  refine V_eqS qS2 ?_
  obtain ⟨x3, qx3, hF⟩ := bnd_g hF
  refine B_iinc (v := 1) qx3 dX12_feed_111 rfl (by decide) (by decide) ?_
  refine V_goto (tgt := 23) dX12_feed_114 (by decide) ?_
  exact V_lv' (hk23 _ _ hF) (v_all_c rfl (v_all_c rfl (v_all_c rfl (v_all_c rfl (v_all_c rfl (v_all_c rfl (v_all_c rfl v_all_n)))))))
set_option maxRecDepth 100000 in
set_option maxHeartbeats 4000000 in
theorem w_X12_feed_L23 {l : Launch} {s0 : State} {D : va_G} {a0 : Array Value} {sh : List Sh} {f : Nat} {t : Nat} {p1 : Int32} {p2 : Int32} {p3 : Int32} {p4 : Int32} {p5 : Int32} (ht : isX12 sh t) {r : Int32 × St} {d : Nat} (G : GC l s0 D a0) (hd : 1 ≤ d + 1) : ∀ (n : Nat) (S : St) (l6 : Int32), F_X12_feed_L23 sh f t p1 p2 p3 p4 p5 n S l6 = some r → V l s0 D (d + 1) 0 0 mX12_feed (fun v h => v = some (.int r.1) ∧ h = wd s0.heap.size sh r.2) v_noX 23 [(0, .ref (s0.heap.size + t)), (1, .int p1), (2, .int p2), (3, .int p3), (4, .int p4), (5, .int p5), (6, .int l6)] [] (wd s0.heap.size sh S) := by
  intro n
  induction n with
  | zero => intro S l6 hF; cases hF
  | succ n ih =>
    intro S l6 hF
    unfold F_X12_feed_L23 at hF
    refine V_iload dX12_feed_23 rfl ?_
    refine V_bipush (v := 20) dX12_feed_25 (by decide) ?_
    refine V_icmp_ge (tgt := 117) dX12_feed_27 (by decide) (fun c => ?_) (fun c => ?_)
    · replace hF := (if_pos c).symm.trans hF
      refine V_aload_n dX12_feed_117 rfl ?_
      refine X_gI G dX12_feed_118 fX12_300 ht.1 rfl ?_
      cases hF
      exact V_ireturn dX12_feed_121 rfl rfl ⟨rfl, rfl⟩
    · replace hF := (if_neg c).symm.trans hF
      refine V_iload dX12_feed_30 rfl ?_
      refine V_iconst (v := 4) dX12_feed_32 (by decide) ?_
      refine V_icmp_ge (tgt := 40) dX12_feed_33 (by decide) (fun c => ?_) (fun c => ?_)
      · replace hF := (if_pos c).symm.trans hF
        refine V_iload dX12_feed_40 rfl ?_
        refine V_bipush (v := 8) dX12_feed_42 (by decide) ?_
        refine V_icmp_ge (tgt := 51) dX12_feed_44 (by decide) (fun c => ?_) (fun c => ?_)
        · replace hF := (if_pos c).symm.trans hF
          refine V_iload dX12_feed_51 rfl ?_
          refine V_bipush (v := 12) dX12_feed_53 (by decide) ?_
          refine V_icmp_ge (tgt := 62) dX12_feed_55 (by decide) (fun c => ?_) (fun c => ?_)
          · replace hF := (if_pos c).symm.trans hF
            refine V_iload dX12_feed_62 rfl ?_
            refine V_bipush (v := 16) dX12_feed_64 (by decide) ?_
            refine V_icmp_ge (tgt := 74) dX12_feed_66 (by decide) (fun c => ?_) (fun c => ?_)
            · replace hF := (if_pos c).symm.trans hF
              refine V_iload dX12_feed_74 rfl ?_
              exact V_lv' (w_X12_feed_L76 ht G hd ih _ _ _ hF) (v_all_c rfl (v_all_c rfl (v_all_c rfl (v_all_c rfl (v_all_c rfl (v_all_c rfl (v_all_c rfl v_all_n)))))))
            · replace hF := (if_neg c).symm.trans hF
              refine V_iload dX12_feed_69 rfl ?_
              refine V_goto (tgt := 76) dX12_feed_71 (by decide) ?_
              exact V_lv' (w_X12_feed_L76 ht G hd ih _ _ _ hF) (v_all_c rfl (v_all_c rfl (v_all_c rfl (v_all_c rfl (v_all_c rfl (v_all_c rfl (v_all_c rfl v_all_n)))))))
          · replace hF := (if_neg c).symm.trans hF
            refine V_iload_n dX12_feed_58 rfl ?_
            refine V_goto (tgt := 76) dX12_feed_59 (by decide) ?_
            exact V_lv' (w_X12_feed_L76 ht G hd ih _ _ _ hF) (v_all_c rfl (v_all_c rfl (v_all_c rfl (v_all_c rfl (v_all_c rfl (v_all_c rfl (v_all_c rfl v_all_n)))))))
        · replace hF := (if_neg c).symm.trans hF
          refine V_iload_n dX12_feed_47 rfl ?_
          refine V_goto (tgt := 76) dX12_feed_48 (by decide) ?_
          exact V_lv' (w_X12_feed_L76 ht G hd ih _ _ _ hF) (v_all_c rfl (v_all_c rfl (v_all_c rfl (v_all_c rfl (v_all_c rfl (v_all_c rfl (v_all_c rfl v_all_n)))))))
      · replace hF := (if_neg c).symm.trans hF
        refine V_iload_n dX12_feed_36 rfl ?_
        refine V_goto (tgt := 76) dX12_feed_37 (by decide) ?_
        exact V_lv' (w_X12_feed_L76 ht G hd ih _ _ _ hF) (v_all_c rfl (v_all_c rfl (v_all_c rfl (v_all_c rfl (v_all_c rfl (v_all_c rfl (v_all_c rfl v_all_n)))))))
set_option maxRecDepth 100000 in
set_option maxHeartbeats 4000000 in
theorem s_X12_feed {l : Launch} {s0 : State} {D : va_G} {a0 : Array Value} {sh : List Sh} {f : Nat} {S : St} {t : Nat} {p1 : Int32} {p2 : Int32} {p3 : Int32} {p4 : Int32} {p5 : Int32} (ht : isX12 sh t) {r : Int32 × St} (G : GC l s0 D a0) (hF : F_X12_feed sh f S t p1 p2 p3 p4 p5 = some r) {d : Nat} (hd : 1 ≤ d) : Sp l s0 D d 0 0 mX12_feed (fun v h => v = some (.int r.1) ∧ h = wd s0.heap.size sh r.2) v_noX [.ref (s0.heap.size + t), .int p1, .int p2, .int p3, .int p4, .int p5] (wd s0.heap.size sh S) := by
  obtain ⟨d, rfl⟩ : ∃ e, d = e + 1 := ⟨d - 1, by omega⟩
  refine Sp.of (by decide +kernel) rfl (Nat.le_of_ble_eq_true rfl) ?_
  unfold F_X12_feed at hF
  refine V_aload_n dX12_feed_0 rfl ?_
  refine V_iconst (v := 0) dX12_feed_1 (by decide) ?_
  refine X_pI G dX12_feed_2 gX12_147 ht.1 rfl rfl rfl ?_
  obtain ⟨S1, qS1, hF⟩ := bnd_g hF
  refine V_eqS qS1 ?_
  refine V_aload_n dX12_feed_5 rfl ?_
  refine X_gI G dX12_feed_6 fX12_300 ht.1 rfl ?_
  refine V_bipush (v := 20) dX12_feed_9 (by decide) ?_
  refine V_iadd dX12_feed_11 ?_
  refine V_sipush (v := 400) dX12_feed_12 (by decide) ?_
  refine V_icmp_le (tgt := 20) dX12_feed_15 (by decide) (fun c => ?_) (fun c => ?_)
  · replace hF := (if_pos c).symm.trans hF
    refine V_iconst (v := 0) dX12_feed_20 (by decide) ?_
    refine V_istore dX12_feed_21 (by decide) ?_
    exact V_lv' (w_X12_feed_L23 ht G hd f _ _ hF) (v_all_c rfl (v_all_c rfl (v_all_c rfl (v_all_c rfl (v_all_c rfl (v_all_c rfl (v_all_c rfl v_all_n)))))))
  · replace hF := (if_neg c).symm.trans hF
    refine V_iconst (v := -1) dX12_feed_18 (by decide) ?_
    cases hF
    exact V_ireturn dX12_feed_19 rfl rfl ⟨rfl, rfl⟩
set_option maxRecDepth 100000 in
set_option maxHeartbeats 4000000 in
theorem s_X12_fault {l : Launch} {s0 : State} {D : va_G} {a0 : Array Value} {sh : List Sh} {f : Nat} {S : St} {t : Nat} (ht : isX12 sh t) {r : Int32 × St} (G : GC l s0 D a0) (hF : F_X12_fault sh f S t = some r) {d : Nat} (hd : 1 ≤ d) : Sp l s0 D d 0 0 mX12_fault (fun v h => v = some (.int r.1) ∧ h = wd s0.heap.size sh r.2) v_noX [.ref (s0.heap.size + t)] (wd s0.heap.size sh S) := by
  obtain ⟨d, rfl⟩ : ∃ e, d = e + 1 := ⟨d - 1, by omega⟩
  refine Sp.of (by decide +kernel) rfl (Nat.le_of_ble_eq_true rfl) ?_
  unfold F_X12_fault at hF
  refine V_aload_n dX12_fault_0 rfl ?_
  refine V_iconst (v := 0) dX12_fault_1 (by decide) ?_
  refine X_pI G dX12_fault_2 gX12_147 ht.1 rfl rfl rfl ?_
  obtain ⟨S1, qS1, hF⟩ := bnd_g hF
  refine V_eqS qS1 ?_
  refine V_aload_n dX12_fault_5 rfl ?_
  refine X_gI G dX12_fault_6 fX12_306 ht.1 rfl ?_
  cases hF
  exact V_ireturn dX12_fault_9 rfl rfl ⟨rfl, rfl⟩

