set_option maxRecDepth 100000 in
set_option maxHeartbeats 4000000 in
theorem w_X12_pairs_L2 {l : Launch} {s0 : State} {D : va_G} {a0 : Array Value} {sh : List Sh} {f : Nat} {t : Nat} (ht : isX12 sh t) {r : St} {d : Nat} (G : GC l s0 D a0) (hd : 14 ≤ d + 1) : ∀ (n : Nat) (S : St) (l1 : Int32), F_X12_pairs_L2 sh f t n S l1 = some r → V l s0 D (d + 1) 0 0 mX12_pairs (fun v h => v = none ∧ h = wd s0.heap.size sh r) v_noX 2 [(0, .ref (s0.heap.size + t)), (1, .int l1)] [] (wd s0.heap.size sh S) := by
  intro n
  induction n with
  | zero => intro S l1 hF; cases hF
  | succ n ih =>
    intro S l1 hF
    unfold F_X12_pairs_L2 at hF
    refine V_iload_n dX12_pairs_2 rfl ?_
    refine V_bipush (v := 12) dX12_pairs_3 (by decide) ?_
    refine V_icmp_ge (tgt := 21) dX12_pairs_5 (by decide) (fun c => ?_) (fun c => ?_)
    · replace hF := (if_pos c).symm.trans hF
      refine V_aload_n dX12_pairs_21 rfl ?_
      refine V_iconst (v := 0) dX12_pairs_22 (by decide) ?_
      refine X_pI G dX12_pairs_23 gX12_353 ht.1 rfl rfl rfl ?_
      obtain ⟨S1, qS1, hF⟩ := bnd_g hF
      refine V_eqS qS1 ?_
      refine V_aload_n dX12_pairs_26 rfl ?_
      refine V_iconst (v := 0) dX12_pairs_27 (by decide) ?_
      obtain ⟨y2, hc, hF⟩ := bd hF
      refine V_callV G dX12_pairs_28 kX12_356 (wd_at ht.1) ⟨by decide, rfl⟩ (s_X12_pairsFrom G 10 _ _ _ _ ht hc _ (by omega)) rfl (Nat.le_of_ble_eq_true rfl) (fun _ _ _ q => q.elim) ?_
      rintro _ _ ⟨rfl, rfl⟩
      cases hF
      exact V_return dX12_pairs_31 rfl ⟨rfl, rfl⟩
    · replace hF := (if_neg c).symm.trans hF
      refine V_aload_n dX12_pairs_8 rfl ?_
      refine X_gC G dX12_pairs_9 fX12_63 ht.1 rfl ?_
      refine V_iload_n dX12_pairs_12 rfl ?_
      refine V_iconst (v := -1) dX12_pairs_13 (by decide) ?_
      obtain ⟨hz, hF⟩ := gv_out hF
      refine X_iast dX12_pairs_14 ht.2.2.2.2.2.2.2.2.2.2.2.1 hz ?_
      obtain ⟨S3, qS3, hF⟩ := bnd_g hF
      refine V_eqS qS3 ?_
      obtain ⟨x4, qx4, hF⟩ := bnd_g hF
      refine B_iinc (v := 1) qx4 dX12_pairs_15 rfl (by decide) (by decide) ?_
      refine V_goto (tgt := 2) dX12_pairs_18 (by decide) ?_
      exact V_lv' (ih _ _ hF) (v_all_c rfl (v_all_c rfl v_all_n))
set_option maxRecDepth 100000 in
set_option maxHeartbeats 4000000 in
theorem s_X12_pairs {l : Launch} {s0 : State} {D : va_G} {a0 : Array Value} {sh : List Sh} {f : Nat} {S : St} {t : Nat} (ht : isX12 sh t) {r : St} (G : GC l s0 D a0) (hF : F_X12_pairs sh f S t = some r) {d : Nat} (hd : 14 ≤ d) : Sp l s0 D d 0 0 mX12_pairs (fun v h => v = none ∧ h = wd s0.heap.size sh r) v_noX [.ref (s0.heap.size + t)] (wd s0.heap.size sh S) := by
  obtain ⟨d, rfl⟩ : ∃ e, d = e + 1 := ⟨d - 1, by omega⟩
  refine Sp.of (by decide +kernel) rfl (Nat.le_of_ble_eq_true rfl) ?_
  unfold F_X12_pairs at hF
  refine V_iconst (v := 0) dX12_pairs_0 (by decide) ?_
  refine V_istore_n dX12_pairs_1 (by decide) ?_
  exact V_lv' (w_X12_pairs_L2 ht G hd f _ _ hF) (v_all_c rfl (v_all_c rfl v_all_n))
set_option maxRecDepth 100000 in
set_option maxHeartbeats 4000000 in
theorem w_X12_rowAt_L10 {l : Launch} {s0 : State} {D : va_G} {a0 : Array Value} {sh : List Sh} {f : Nat} {S : St} {t : Nat} {p1 : Int64} (ht : isX12 sh t) {r : Int32} {d : Nat} (G : GC l s0 D a0) (hd : 1 ≤ d + 1) : ∀ (n : Nat) (l3 : Int32) (l4 : Int32), F_X12_rowAt_L10 sh f S t p1 n l3 l4 = some r → V l s0 D (d + 1) 0 0 mX12_rowAt (fun v h => v = some (.int r) ∧ h = wd s0.heap.size sh S) v_noX 10 [(0, .ref (s0.heap.size + t)), (1, .long p1), (3, .int l3), (4, .int l4)] [] (wd s0.heap.size sh S) := by
  intro n
  induction n with
  | zero => intro l3 l4 hF; cases hF
  | succ n ih =>
    intro l3 l4 hF
    unfold F_X12_rowAt_L10 at hF
    refine V_iload_n dX12_rowAt_10 rfl ?_
    refine V_iload dX12_rowAt_11 rfl ?_
    refine V_icmp_gt (tgt := 68) dX12_rowAt_13 (by decide) (fun c => ?_) (fun c => ?_)
    · replace hF := (if_pos c).symm.trans hF
      refine V_iconst (v := -1) dX12_rowAt_68 (by decide) ?_
      cases hF
      exact V_ireturn dX12_rowAt_69 rfl rfl ⟨rfl, rfl⟩
    · replace hF := (if_neg c).symm.trans hF
      refine V_iload_n dX12_rowAt_16 rfl ?_
      refine V_iload dX12_rowAt_17 rfl ?_
      refine V_iadd dX12_rowAt_19 ?_
      refine V_iconst (v := 2) dX12_rowAt_20 (by decide) ?_
      refine V_idiv dX12_rowAt_21 (by decide) ?_
      obtain ⟨x1, qx1, hF⟩ := bnd_g hF
      refine B_istore qx1 dX12_rowAt_22 (by decide) ?_
      refine V_aload_n dX12_rowAt_24 rfl ?_
      refine X_gC G dX12_rowAt_25 fX12_72 ht.1 rfl ?_
      refine V_iload dX12_rowAt_28 rfl ?_
      obtain ⟨hz, hF⟩ := gv_out hF
      refine X_lald dX12_rowAt_30 ht.2.2.2.2.2.2.2.2.2.2.2.2.2.2.1 hz ?_
      refine V_lload_n dX12_rowAt_31 rfl ?_
      refine V_lcmp dX12_rowAt_32 ?_
      refine V_if_ne (tgt := 39) dX12_rowAt_33 (by decide) (fun c => ?_) (fun c => ?_)
      · replace hF := (if_neg c).symm.trans hF
        refine V_aload_n dX12_rowAt_39 rfl ?_
        refine X_gC G dX12_rowAt_40 fX12_72 ht.1 rfl ?_
        refine V_iload dX12_rowAt_43 rfl ?_
        obtain ⟨hz, hF⟩ := gv_out hF
        refine X_lald dX12_rowAt_45 ht.2.2.2.2.2.2.2.2.2.2.2.2.2.2.1 hz ?_
        refine V_lload_n dX12_rowAt_46 rfl ?_
        refine V_lcmp dX12_rowAt_47 ?_
        refine V_if_ge (tgt := 59) dX12_rowAt_48 (by decide) (fun c => ?_) (fun c => ?_)
        · replace hF := (if_pos c).symm.trans hF
          refine V_iload dX12_rowAt_59 rfl ?_
          refine V_iconst (v := 1) dX12_rowAt_61 (by decide) ?_
          refine V_isub dX12_rowAt_62 ?_
          obtain ⟨x2, qx2, hF⟩ := bnd_g hF
          refine B_istore qx2 dX12_rowAt_63 (by decide) ?_
          refine V_goto (tgt := 10) dX12_rowAt_65 (by decide) ?_
          exact V_lv' (ih _ _ hF) (v_all_c rfl (v_all_c rfl (v_all_c rfl (v_all_c rfl v_all_n))))
        · replace hF := (if_neg c).symm.trans hF
          refine V_iload dX12_rowAt_51 rfl ?_
          refine V_iconst (v := 1) dX12_rowAt_53 (by decide) ?_
          refine V_iadd dX12_rowAt_54 ?_
          obtain ⟨x3, qx3, hF⟩ := bnd_g hF
          refine B_istore_n qx3 dX12_rowAt_55 (by decide) ?_
          refine V_goto (tgt := 65) dX12_rowAt_56 (by decide) ?_
          refine V_goto (tgt := 10) dX12_rowAt_65 (by decide) ?_
          exact V_lv' (ih _ _ hF) (v_all_c rfl (v_all_c rfl (v_all_c rfl (v_all_c rfl v_all_n))))
      · replace hF := (if_pos c).symm.trans hF
        refine V_iload dX12_rowAt_36 rfl ?_
        cases hF
        exact V_ireturn dX12_rowAt_38 rfl rfl ⟨rfl, rfl⟩
set_option maxRecDepth 100000 in
set_option maxHeartbeats 4000000 in
theorem s_X12_rowAt {l : Launch} {s0 : State} {D : va_G} {a0 : Array Value} {sh : List Sh} {f : Nat} {S : St} {t : Nat} {p1 : Int64} (ht : isX12 sh t) {r : Int32} (G : GC l s0 D a0) (hF : F_X12_rowAt sh f S t p1 = some r) {d : Nat} (hd : 1 ≤ d) : Sp l s0 D d 0 0 mX12_rowAt (fun v h => v = some (.int r) ∧ h = wd s0.heap.size sh S) v_noX [.ref (s0.heap.size + t), .long p1] (wd s0.heap.size sh S) := by
  obtain ⟨d, rfl⟩ : ∃ e, d = e + 1 := ⟨d - 1, by omega⟩
  refine Sp.of (by decide +kernel) rfl (Nat.le_of_ble_eq_true rfl) ?_
  unfold F_X12_rowAt at hF
  refine V_iconst (v := 0) dX12_rowAt_0 (by decide) ?_
  refine V_istore_n dX12_rowAt_1 (by decide) ?_
  refine V_aload_n dX12_rowAt_2 rfl ?_
  refine X_gI G dX12_rowAt_3 fX12_353 ht.1 rfl ?_
  refine V_iconst (v := 1) dX12_rowAt_6 (by decide) ?_
  refine V_isub dX12_rowAt_7 ?_
  obtain ⟨x1, qx1, hF⟩ := bnd_g hF
  refine B_istore qx1 dX12_rowAt_8 (by decide) ?_
  exact V_lv' (w_X12_rowAt_L10 ht G hd f _ _ hF) (v_all_c rfl (v_all_c rfl (v_all_c rfl (v_all_c rfl v_all_n))))
set_option maxRecDepth 100000 in
set_option maxHeartbeats 4000000 in
theorem w_X12_swappedRow_L50 {l : Launch} {s0 : State} {D : va_G} {a0 : Array Value} {sh : List Sh} {f : Nat} {t : Nat} {p1 : Int32} (ht : isX12 sh t) {r : Int32 × St} {d : Nat} (G : GC l s0 D a0) (hd : 2 ≤ d + 1) : ∀ (n : Nat) (S : St) (l2 : Int32), F_X12_swappedRow_L50 sh f t p1 n S l2 = some r → V l s0 D (d + 1) 0 0 mX12_swappedRow (fun v h => v = some (.int r.1) ∧ h = wd s0.heap.size sh r.2) v_noX 50 [(0, .ref (s0.heap.size + t)), (2, .int l2)] [] (wd s0.heap.size sh S) := by
  intro n
  induction n with
  | zero => intro S l2 hF; cases hF
  | succ n ih =>
    intro S l2 hF
    unfold F_X12_swappedRow_L50 at hF
    refine V_iload_n dX12_swappedRow_50 rfl ?_
    refine V_aload_n dX12_swappedRow_51 rfl ?_
    refine X_gI G dX12_swappedRow_52 fX12_331 ht.1 rfl ?_
    refine V_icmp_ge (tgt := 76) dX12_swappedRow_55 (by decide) (fun c => ?_) (fun c => ?_)
    · replace hF := (if_pos c).symm.trans hF
      refine V_aload_n dX12_swappedRow_76 rfl ?_
      refine V_aload_n dX12_swappedRow_77 rfl ?_
      obtain ⟨y1, hc, hF⟩ := bd hF
      refine V_callV G dX12_swappedRow_78 kX12_362 (wd_at ht.1) ⟨by decide, rfl⟩ (s_X12_rowHere ht G hc (by omega)) rfl (Nat.le_of_ble_eq_true rfl) (fun _ _ _ q => q.elim) ?_
      rintro _ _ ⟨rfl, rfl⟩
      obtain ⟨y2, hc, hF⟩ := bd hF
      refine V_callV G dX12_swappedRow_81 kX12_370 (wd_at ht.1) ⟨by decide, rfl⟩ (s_X12_rowAt ht G hc (by omega)) rfl (Nat.le_of_ble_eq_true rfl) (fun _ _ _ q => q.elim) ?_
      rintro _ _ ⟨rfl, rfl⟩
      cases hF
      exact V_ireturn dX12_swappedRow_84 rfl rfl ⟨rfl, rfl⟩
    · replace hF := (if_neg c).symm.trans hF
      refine V_aload_n dX12_swappedRow_58 rfl ?_
      refine X_gC G dX12_swappedRow_59 fX12_63 ht.1 rfl ?_
      refine V_iload_n dX12_swappedRow_62 rfl ?_
      refine V_aload_n dX12_swappedRow_63 rfl ?_
      refine X_gC G dX12_swappedRow_64 fX12_85 ht.1 rfl ?_
      refine V_iload_n dX12_swappedRow_67 rfl ?_
      obtain ⟨hz, hF⟩ := gv_out hF
      refine X_iald dX12_swappedRow_68 ht.2.2.2.2.2.2.2.2.2.2.2.2.2.2.2.2.2.2.1 hz ?_
      obtain ⟨hz, hF⟩ := gv_out hF
      refine X_iast dX12_swappedRow_69 ht.2.2.2.2.2.2.2.2.2.2.2.1 hz ?_
      obtain ⟨S3, qS3, hF⟩ := bnd_g hF
      refine V_eqS qS3 ?_
      obtain ⟨x4, qx4, hF⟩ := bnd_g hF
      refine B_iinc (v := 1) qx4 dX12_swappedRow_70 rfl (by decide) (by decide) ?_
      refine V_goto (tgt := 50) dX12_swappedRow_73 (by decide) ?_
      exact V_lv' (ih _ _ hF) (v_all_c rfl (v_all_c rfl v_all_n))
set_option maxRecDepth 100000 in
set_option maxHeartbeats 4000000 in
theorem w_X12_swappedRow_L12 {l : Launch} {s0 : State} {D : va_G} {a0 : Array Value} {sh : List Sh} {f : Nat} {t : Nat} {p1 : Int32} (ht : isX12 sh t) {r : Int32 × St} {d : Nat} (G : GC l s0 D a0) (hd : 2 ≤ d + 1) : ∀ (n : Nat) (S : St) (l2 : Int32), F_X12_swappedRow_L12 sh f t p1 n S l2 = some r → V l s0 D (d + 1) 0 0 mX12_swappedRow (fun v h => v = some (.int r.1) ∧ h = wd s0.heap.size sh r.2) v_noX 12 [(0, .ref (s0.heap.size + t)), (2, .int l2)] [] (wd s0.heap.size sh S) := by
  intro n
  induction n with
  | zero => intro S l2 hF; cases hF
  | succ n ih =>
    intro S l2 hF
    unfold F_X12_swappedRow_L12 at hF
    refine V_iload_n dX12_swappedRow_12 rfl ?_
    refine V_aload_n dX12_swappedRow_13 rfl ?_
    refine X_gI G dX12_swappedRow_14 fX12_331 ht.1 rfl ?_
    refine V_icmp_ge (tgt := 48) dX12_swappedRow_17 (by decide) (fun c => ?_) (fun c => ?_)
    · replace hF := (if_pos c).symm.trans hF
      refine V_iconst (v := 0) dX12_swappedRow_48 (by decide) ?_
      refine V_istore_n dX12_swappedRow_49 (by decide) ?_
      exact V_lv' (w_X12_swappedRow_L50 ht G hd f _ _ hF) (v_all_c rfl (v_all_c rfl v_all_n))
    · replace hF := (if_neg c).symm.trans hF
      refine V_aload_n dX12_swappedRow_20 rfl ?_
      refine X_gC G dX12_swappedRow_21 fX12_85 ht.1 rfl ?_
      refine V_aload_n dX12_swappedRow_24 rfl ?_
      refine X_gC G dX12_swappedRow_25 fX12_82 ht.1 rfl ?_
      refine V_iload_n dX12_swappedRow_28 rfl ?_
      obtain ⟨hz, hF⟩ := gv_out hF
      refine X_iald dX12_swappedRow_29 ht.2.2.2.2.2.2.2.2.2.2.2.2.2.2.2.2.2.1 hz ?_
      refine V_aload_n dX12_swappedRow_30 rfl ?_
      refine X_gC G dX12_swappedRow_31 fX12_82 ht.1 rfl ?_
      refine V_aload_n dX12_swappedRow_34 rfl ?_
      refine X_gC G dX12_swappedRow_35 fX12_63 ht.1 rfl ?_
      refine V_iload_n dX12_swappedRow_38 rfl ?_
      obtain ⟨hz, hF⟩ := gv_out hF
      refine X_iald dX12_swappedRow_39 ht.2.2.2.2.2.2.2.2.2.2.2.1 hz ?_
      obtain ⟨hz, hF⟩ := gv_out hF
      refine X_iald dX12_swappedRow_40 ht.2.2.2.2.2.2.2.2.2.2.2.2.2.2.2.2.2.1 hz ?_
      obtain ⟨hz, hF⟩ := gv_out hF
      refine X_iast dX12_swappedRow_41 ht.2.2.2.2.2.2.2.2.2.2.2.2.2.2.2.2.2.2.1 hz ?_
      obtain ⟨S1, qS1, hF⟩ := bnd_g hF
      refine V_eqS qS1 ?_
      obtain ⟨x2, qx2, hF⟩ := bnd_g hF
      refine B_iinc (v := 1) qx2 dX12_swappedRow_42 rfl (by decide) (by decide) ?_
      refine V_goto (tgt := 12) dX12_swappedRow_45 (by decide) ?_
      exact V_lv' (ih _ _ hF) (v_all_c rfl (v_all_c rfl v_all_n))
set_option maxRecDepth 100000 in
set_option maxHeartbeats 4000000 in
theorem s_X12_swappedRow {l : Launch} {s0 : State} {D : va_G} {a0 : Array Value} {sh : List Sh} {f : Nat} {S : St} {t : Nat} {p1 : Int32} (ht : isX12 sh t) {r : Int32 × St} (G : GC l s0 D a0) (hF : F_X12_swappedRow sh f S t p1 = some r) {d : Nat} (hd : 2 ≤ d) : Sp l s0 D d 0 0 mX12_swappedRow (fun v h => v = some (.int r.1) ∧ h = wd s0.heap.size sh r.2) v_noX [.ref (s0.heap.size + t), .int p1] (wd s0.heap.size sh S) := by
  obtain ⟨d, rfl⟩ : ∃ e, d = e + 1 := ⟨d - 1, by omega⟩
  refine Sp.of (by decide +kernel) rfl (Nat.le_of_ble_eq_true rfl) ?_
  unfold F_X12_swappedRow at hF
  refine V_aload_n dX12_swappedRow_0 rfl ?_
  refine V_aload_n dX12_swappedRow_1 rfl ?_
  refine X_gC G dX12_swappedRow_2 fX12_72 ht.1 rfl ?_
  refine V_iload_n dX12_swappedRow_5 rfl ?_
  obtain ⟨hz, hF⟩ := gv_out hF
  refine X_lald dX12_swappedRow_6 ht.2.2.2.2.2.2.2.2.2.2.2.2.2.2.1 hz ?_
  obtain ⟨y1, hc, hF⟩ := bd hF
  refine V_callV G dX12_swappedRow_7 kX12_366 (wd_at ht.1) ⟨by decide, rfl⟩ (s_X12_takes ht G hc (by omega)) rfl (Nat.le_of_ble_eq_true rfl) (fun _ _ _ q => q.elim) ?_
  rintro _ _ ⟨rfl, rfl⟩
  refine V_iconst (v := 0) dX12_swappedRow_10 (by decide) ?_
  refine V_istore_n dX12_swappedRow_11 (by decide) ?_
  exact V_lv' (w_X12_swappedRow_L12 ht G hd f _ _ hF) (v_all_c rfl (v_all_c rfl v_all_n))
set_option maxRecDepth 100000 in
set_option maxHeartbeats 4000000 in
theorem w_X12_plainSwap_L2 {l : Launch} {s0 : State} {D : va_G} {a0 : Array Value} {sh : List Sh} {f : Nat} {t : Nat} (ht : isX12 sh t) {r : St} {d : Nat} (G : GC l s0 D a0) (hd : 1 ≤ d + 1) : ∀ (n : Nat) (S : St) (l1 : Int32), F_X12_plainSwap_L2 sh f t n S l1 = some r → V l s0 D (d + 1) 0 0 mX12_plainSwap (fun v h => v = none ∧ h = wd s0.heap.size sh r) v_noX 2 [(0, .ref (s0.heap.size + t)), (1, .int l1)] [] (wd s0.heap.size sh S) := by
  intro n
  induction n with
  | zero => intro S l1 hF; cases hF
  | succ n ih =>
    intro S l1 hF
    unfold F_X12_plainSwap_L2 at hF
    refine V_iload_n dX12_plainSwap_2 rfl ?_
    refine V_aload_n dX12_plainSwap_3 rfl ?_
    refine X_gI G dX12_plainSwap_4 fX12_331 ht.1 rfl ?_
    refine V_icmp_ge (tgt := 23) dX12_plainSwap_7 (by decide) (fun c => ?_) (fun c => ?_)
    · replace hF := (if_pos c).symm.trans hF
      cases hF
      exact V_return dX12_plainSwap_23 rfl ⟨rfl, rfl⟩
    · replace hF := (if_neg c).symm.trans hF
      refine V_aload_n dX12_plainSwap_10 rfl ?_
      refine X_gC G dX12_plainSwap_11 fX12_82 ht.1 rfl ?_
      refine V_iload_n dX12_plainSwap_14 rfl ?_
      refine V_iload_n dX12_plainSwap_15 rfl ?_
      obtain ⟨hz, hF⟩ := gv_out hF
      refine X_iast dX12_plainSwap_16 ht.2.2.2.2.2.2.2.2.2.2.2.2.2.2.2.2.2.1 hz ?_
      obtain ⟨S1, qS1, hF⟩ := bnd_g hF
      refine V_eqS qS1 ?_
      obtain ⟨x2, qx2, hF⟩ := bnd_g hF
      refine B_iinc (v := 1) qx2 dX12_plainSwap_17 rfl (by decide) (by decide) ?_
      refine V_goto (tgt := 2) dX12_plainSwap_20 (by decide) ?_
      exact V_lv' (ih _ _ hF) (v_all_c rfl (v_all_c rfl v_all_n))
set_option maxRecDepth 100000 in
set_option maxHeartbeats 4000000 in
theorem s_X12_plainSwap {l : Launch} {s0 : State} {D : va_G} {a0 : Array Value} {sh : List Sh} {f : Nat} {S : St} {t : Nat} (ht : isX12 sh t) {r : St} (G : GC l s0 D a0) (hF : F_X12_plainSwap sh f S t = some r) {d : Nat} (hd : 1 ≤ d) : Sp l s0 D d 0 0 mX12_plainSwap (fun v h => v = none ∧ h = wd s0.heap.size sh r) v_noX [.ref (s0.heap.size + t)] (wd s0.heap.size sh S) := by
  obtain ⟨d, rfl⟩ : ∃ e, d = e + 1 := ⟨d - 1, by omega⟩
  refine Sp.of (by decide +kernel) rfl (Nat.le_of_ble_eq_true rfl) ?_
  unfold F_X12_plainSwap at hF
  refine V_iconst (v := 0) dX12_plainSwap_0 (by decide) ?_
  refine V_istore_n dX12_plainSwap_1 (by decide) ?_
  exact V_lv' (w_X12_plainSwap_L2 ht G hd f _ _ hF) (v_all_c rfl (v_all_c rfl v_all_n))
set_option maxRecDepth 100000 in
set_option maxHeartbeats 4000000 in
theorem s_X12_reaches {l : Launch} {s0 : State} {D : va_G} {a0 : Array Value} {sh : List Sh} {f : Nat} {S : St} {t : Nat} {p1 : Int32} {p2 : Int32} (ht : isX12 sh t) {r : St} (G : GC l s0 D a0) (hF : F_X12_reaches sh f S t p1 p2 = some r) {d : Nat} (hd : 3 ≤ d) : Sp l s0 D d 0 0 mX12_reaches (fun v h => v = none ∧ h = wd s0.heap.size sh r) v_noX [.ref (s0.heap.size + t), .int p1, .int p2] (wd s0.heap.size sh S) := by
  obtain ⟨d, rfl⟩ : ∃ e, d = e + 1 := ⟨d - 1, by omega⟩
  refine Sp.of (by decide +kernel) rfl (Nat.le_of_ble_eq_true rfl) ?_
  unfold F_X12_reaches at hF
  refine V_aload_n dX12_reaches_0 rfl ?_
  refine V_iload_n dX12_reaches_1 rfl ?_
  obtain ⟨y1, hc, hF⟩ := bd hF
  refine V_callV G dX12_reaches_2 kX12_373 (wd_at ht.1) ⟨by decide, rfl⟩ (s_X12_swappedRow ht G hc (by omega)) rfl (Nat.le_of_ble_eq_true rfl) (fun _ _ _ q => q.elim) ?_
  rintro _ _ ⟨rfl, rfl⟩
  obtain ⟨x2, qx2, hF⟩ := bnd_g hF
  refine B_istore_n qx2 dX12_reaches_5 (by decide) ?_
  refine V_aload_n dX12_reaches_6 rfl ?_
  refine X_gC G dX12_reaches_7 fX12_76 ht.1 rfl ?_
  refine V_iload_n dX12_reaches_10 rfl ?_
  obtain ⟨hz, hF⟩ := gv_out hF
  refine X_iald dX12_reaches_11 ht.2.2.2.2.2.2.2.2.2.2.2.2.2.2.2.1 hz ?_
  refine V_iconst (v := -1) dX12_reaches_12 (by decide) ?_
  refine V_icmp_eq (tgt := 17) dX12_reaches_13 (by decide) (fun c => ?_) (fun c => ?_)
  · replace hF := (if_pos c).symm.trans hF
    refine V_aload_n dX12_reaches_17 rfl ?_
    refine X_gC G dX12_reaches_18 fX12_76 ht.1 rfl ?_
    refine V_iload_n dX12_reaches_21 rfl ?_
    refine V_iload_n dX12_reaches_22 rfl ?_
    obtain ⟨hz, hF⟩ := gv_out hF
    refine X_iast dX12_reaches_23 ht.2.2.2.2.2.2.2.2.2.2.2.2.2.2.2.1 hz ?_
    obtain ⟨S3, qS3, hF⟩ := bnd_g hF
    refine V_eqS qS3 ?_
    refine V_aload_n dX12_reaches_24 rfl ?_
    refine X_gC G dX12_reaches_25 fX12_79 ht.1 rfl ?_
    refine V_aload_n dX12_reaches_28 rfl ?_
    refine X_gI G dX12_reaches_29 fX12_376 ht.1 rfl ?_
    refine V_iload_n dX12_reaches_32 rfl ?_
    obtain ⟨hz, hF⟩ := gv_out hF
    refine X_iast dX12_reaches_33 ht.2.2.2.2.2.2.2.2.2.2.2.2.2.2.2.2.1 hz ?_
    obtain ⟨S4, qS4, hF⟩ := bnd_g hF
    refine V_eqS qS4 ?_
    refine V_aload_n dX12_reaches_34 rfl ?_
    refine V_dup dX12_reaches_35 rfl ?_
    refine X_gI G dX12_reaches_36 fX12_376 ht.1 rfl ?_
    refine V_iconst (v := 1) dX12_reaches_39 (by decide) ?_
    refine V_iadd dX12_reaches_40 ?_
    refine X_pI G dX12_reaches_41 gX12_376 ht.1 rfl rfl rfl ?_
    obtain ⟨S5, qS5, hF⟩ := bnd_g hF
    refine V_eqS qS5 ?_
    cases hF
    exact V_return dX12_reaches_44 rfl ⟨rfl, rfl⟩
  · replace hF := (if_neg c).symm.trans hF
    cases hF
    exact V_return dX12_reaches_16 rfl ⟨rfl, rfl⟩
set_option maxRecDepth 100000 in
set_option maxHeartbeats 4000000 in
theorem w_X12_spreads_L82 {l : Launch} {s0 : State} {D : va_G} {a0 : Array Value} {sh : List Sh} {f : Nat} {t : Nat} {p1 : Nat} {p2 n2 : Nat} {p3 : Int32} {p4 : Int32} {p5 : Int32} (ht : isX12 sh t) (hp1 : isX10 sh p1) (hp2 : sh[p2]? = some (.inl (.int, n2))) {r : Int32 × St} {d : Nat} (G : GC l s0 D a0) (hd : 4 ≤ d + 1) {k67 : St → Int32 → Int32 → Int32 → Option (Int32 × St)} (hk67 : ∀ (S : St) (l6 : Int32) (l7 : Int32) (l8 : Int32), k67 S l6 l7 l8 = some r → V l s0 D (d + 1) 0 0 mX12_spreads (fun v h => v = some (.int r.1) ∧ h = wd s0.heap.size sh r.2) v_noX 67 [(0, .ref (s0.heap.size + t)), (1, .ref (s0.heap.size + p1)), (2, .ref (s0.heap.size + p2)), (3, .int p3), (5, .int p5), (6, .int l6), (7, .int l7), (8, .int l8)] [] (wd s0.heap.size sh S)) : ∀ (n : Nat) (S : St) (l6 : Int32) (l7 : Int32) (l8 : Int32) (l9 : Int32), F_X12_spreads_L82 sh f t p1 p2 n2 p3 p4 p5 k67 n S l6 l7 l8 l9 = some r → V l s0 D (d + 1) 0 0 mX12_spreads (fun v h => v = some (.int r.1) ∧ h = wd s0.heap.size sh r.2) v_noX 82 [(0, .ref (s0.heap.size + t)), (1, .ref (s0.heap.size + p1)), (2, .ref (s0.heap.size + p2)), (3, .int p3), (5, .int p5), (6, .int l6), (7, .int l7), (8, .int l8), (9, .int l9)] [] (wd s0.heap.size sh S) := by
  intro n
  induction n with
  | zero => intro S l6 l7 l8 l9 hF; cases hF
  | succ n ih =>
    intro S l6 l7 l8 l9 hF
    unfold F_X12_spreads_L82 at hF
    refine V_iload dX12_spreads_82 rfl ?_
    refine V_aload_n dX12_spreads_84 rfl ?_
    refine X_gI G dX12_spreads_85 fX12_331 ht.1 rfl ?_
    refine V_icmp_ge (tgt := 164) dX12_spreads_88 (by decide) (fun c => ?_) (fun c => ?_)
    · replace hF := (if_pos c).symm.trans hF
      obtain ⟨x1, qx1, hF⟩ := bnd_g hF
      refine B_iinc (v := 1) qx1 dX12_spreads_164 rfl (by decide) (by decide) ?_
      refine V_goto (tgt := 67) dX12_spreads_167 (by decide) ?_
      exact V_lv' (hk67 _ _ _ _ hF) (v_all_c rfl (v_all_c rfl (v_all_c rfl (v_all_c rfl (v_all_c rfl (v_all_c rfl (v_all_c rfl (v_all_c rfl v_all_n))))))))
    · replace hF := (if_neg c).symm.trans hF
      refine V_aload_n dX12_spreads_91 rfl ?_
      refine X_gC G dX12_spreads_92 fX12_60 ht.1 rfl ?_
      refine V_iload dX12_spreads_95 rfl ?_
      obtain ⟨hz, hF⟩ := gv_out hF
      refine X_iald dX12_spreads_97 ht.2.2.2.2.2.2.2.2.2.2.1 hz ?_
      refine V_aload_n dX12_spreads_98 rfl ?_
      refine X_gC G dX12_spreads_99 fX12_60 ht.1 rfl ?_
      refine V_iload dX12_spreads_102 rfl ?_
      obtain ⟨hz, hF⟩ := gv_out hF
      refine X_iald dX12_spreads_104 ht.2.2.2.2.2.2.2.2.2.2.1 hz ?_
      refine V_icmp_ne (tgt := 158) dX12_spreads_105 (by decide) (fun c => ?_) (fun c => ?_)
      · replace hF := (if_neg c).symm.trans hF
        obtain ⟨x2, qx2, hF⟩ := bnd_g hF
        refine B_iinc (v := 1) qx2 dX12_spreads_158 rfl (by decide) (by decide) ?_
        refine V_goto (tgt := 82) dX12_spreads_161 (by decide) ?_
        exact V_lv' (ih _ _ _ _ _ hF) (v_all_c rfl (v_all_c rfl (v_all_c rfl (v_all_c rfl (v_all_c rfl (v_all_c rfl (v_all_c rfl (v_all_c rfl (v_all_c rfl v_all_n)))))))))
      · replace hF := (if_pos c).symm.trans hF
        refine V_aload_n dX12_spreads_108 rfl ?_
        refine X_gC G dX12_spreads_109 fX12_57 ht.1 rfl ?_
        refine V_iload dX12_spreads_112 rfl ?_
        obtain ⟨hz, hF⟩ := gv_out hF
        refine X_iald dX12_spreads_114 ht.2.2.2.2.2.2.2.2.2.1 hz ?_
        refine V_aload_n dX12_spreads_115 rfl ?_
        refine X_gC G dX12_spreads_116 fX12_57 ht.1 rfl ?_
        refine V_iload dX12_spreads_119 rfl ?_
        obtain ⟨hz, hF⟩ := gv_out hF
        refine X_iald dX12_spreads_121 ht.2.2.2.2.2.2.2.2.2.1 hz ?_
        refine V_icmp_eq (tgt := 128) dX12_spreads_122 (by decide) (fun c => ?_) (fun c => ?_)
        · replace hF := (if_pos c).symm.trans hF
          refine V_aload_n dX12_spreads_128 rfl ?_
          obtain ⟨y3, hc, hF⟩ := bd hF
          refine V_callV G dX12_spreads_129 kX12_379 (wd_at ht.1) ⟨by decide, rfl⟩ (s_X12_plainSwap ht G hc (by omega)) rfl (Nat.le_of_ble_eq_true rfl) (fun _ _ _ q => q.elim) ?_
          rintro _ _ ⟨rfl, rfl⟩
          refine V_aload_n dX12_spreads_132 rfl ?_
          refine X_gC G dX12_spreads_133 fX12_82 ht.1 rfl ?_
          refine V_iload dX12_spreads_136 rfl ?_
          refine V_iload dX12_spreads_138 rfl ?_
          obtain ⟨hz, hF⟩ := gv_out hF
          refine X_iast dX12_spreads_140 ht.2.2.2.2.2.2.2.2.2.2.2.2.2.2.2.2.2.1 hz ?_
          obtain ⟨S4, qS4, hF⟩ := bnd_g hF
          refine V_eqS qS4 ?_
          refine V_aload_n dX12_spreads_141 rfl ?_
          refine X_gC G dX12_spreads_142 fX12_82 ht.1 rfl ?_
          refine V_iload dX12_spreads_145 rfl ?_
          refine V_iload dX12_spreads_147 rfl ?_
          obtain ⟨hz, hF⟩ := gv_out hF
          refine X_iast dX12_spreads_149 ht.2.2.2.2.2.2.2.2.2.2.2.2.2.2.2.2.2.1 hz ?_
          obtain ⟨S5, qS5, hF⟩ := bnd_g hF
          refine V_eqS qS5 ?_
          refine V_aload_n dX12_spreads_150 rfl ?_
          refine V_iload dX12_spreads_151 rfl ?_
          refine V_iload dX12_spreads_153 rfl ?_
          obtain ⟨y6, hc, hF⟩ := bd hF
          refine V_callV G dX12_spreads_155 kX12_382 (wd_at ht.1) ⟨by decide, rfl⟩ (s_X12_reaches ht G hc (by omega)) rfl (Nat.le_of_ble_eq_true rfl) (fun _ _ _ q => q.elim) ?_
          rintro _ _ ⟨rfl, rfl⟩
          obtain ⟨x7, qx7, hF⟩ := bnd_g hF
          refine B_iinc (v := 1) qx7 dX12_spreads_158 rfl (by decide) (by decide) ?_
          refine V_goto (tgt := 82) dX12_spreads_161 (by decide) ?_
          exact V_lv' (ih _ _ _ _ _ hF) (v_all_c rfl (v_all_c rfl (v_all_c rfl (v_all_c rfl (v_all_c rfl (v_all_c rfl (v_all_c rfl (v_all_c rfl (v_all_c rfl v_all_n)))))))))
        · replace hF := (if_neg c).symm.trans hF
          refine V_goto (tgt := 158) dX12_spreads_125 (by decide) ?_
          obtain ⟨x8, qx8, hF⟩ := bnd_g hF
          refine B_iinc (v := 1) qx8 dX12_spreads_158 rfl (by decide) (by decide) ?_
          refine V_goto (tgt := 82) dX12_spreads_161 (by decide) ?_
          exact V_lv' (ih _ _ _ _ _ hF) (v_all_c rfl (v_all_c rfl (v_all_c rfl (v_all_c rfl (v_all_c rfl (v_all_c rfl (v_all_c rfl (v_all_c rfl (v_all_c rfl v_all_n)))))))))
set_option maxRecDepth 100000 in
set_option maxHeartbeats 4000000 in
theorem w_X12_spreads_L211 {l : Launch} {s0 : State} {D : va_G} {a0 : Array Value} {sh : List Sh} {f : Nat} {t : Nat} {p1 : Nat} {p2 n2 : Nat} {p3 : Int32} {p4 : Int32} {p5 : Int32} (ht : isX12 sh t) (hp1 : isX10 sh p1) (hp2 : sh[p2]? = some (.inl (.int, n2))) {r : Int32 × St} {d : Nat} (G : GC l s0 D a0) (hd : 4 ≤ d + 1) {k173 : St → Int32 → Int32 → Int32 → Option (Int32 × St)} (hk173 : ∀ (S : St) (l6 : Int32) (l7 : Int32) (l8 : Int32), k173 S l6 l7 l8 = some r → V l s0 D (d + 1) 0 0 mX12_spreads (fun v h => v = some (.int r.1) ∧ h = wd s0.heap.size sh r.2) v_noX 173 [(0, .ref (s0.heap.size + t)), (1, .ref (s0.heap.size + p1)), (2, .ref (s0.heap.size + p2)), (3, .int p3), (5, .int p5), (6, .int l6), (7, .int l7), (8, .int l8)] [] (wd s0.heap.size sh S)) : ∀ (n : Nat) (S : St) (l6 : Int32) (l7 : Int32) (l8 : Int32) (l9 : Int32), F_X12_spreads_L211 sh f t p1 p2 n2 p3 p4 p5 k173 n S l6 l7 l8 l9 = some r → V l s0 D (d + 1) 0 0 mX12_spreads (fun v h => v = some (.int r.1) ∧ h = wd s0.heap.size sh r.2) v_noX 211 [(0, .ref (s0.heap.size + t)), (1, .ref (s0.heap.size + p1)), (2, .ref (s0.heap.size + p2)), (3, .int p3), (5, .int p5), (6, .int l6), (7, .int l7), (8, .int l8), (9, .int l9)] [] (wd s0.heap.size sh S) := by
  intro n
  induction n with
  | zero => intro S l6 l7 l8 l9 hF; cases hF
  | succ n ih =>
    intro S l6 l7 l8 l9 hF
    unfold F_X12_spreads_L211 at hF
    refine V_iload dX12_spreads_211 rfl ?_
    refine V_aload_n dX12_spreads_213 rfl ?_
    obtain ⟨b1, hrb1, hF⟩ := bd hF
    obtain ⟨hb1, hF⟩ := gv_in hF
    replace hb1 := ckX9_ok hb1
    refine X_gR G dX12_spreads_214 fX12_312 ht.1 rfl hrb1 ?_
    refine X_gC G dX12_spreads_217 fX12_284 hb1.1 rfl ?_
    refine V_aload_n dX12_spreads_220 rfl ?_
    refine V_iload_n dX12_spreads_221 rfl ?_
    refine V_iload dX12_spreads_222 rfl ?_
    refine V_iadd dX12_spreads_224 ?_
    obtain ⟨hz, hF⟩ := gv_out hF
    refine X_iald dX12_spreads_225 hp2 hz ?_
    obtain ⟨hz, hF⟩ := gv_out hF
    refine X_iald dX12_spreads_226 hb1.2.2.2.2.2.2.1 hz ?_
    refine V_icmp_ge (tgt := 290) dX12_spreads_227 (by decide) (fun c => ?_) (fun c => ?_)
    · replace hF := (if_pos c).symm.trans hF
      refine V_aload_n dX12_spreads_290 rfl ?_
      refine V_iload dX12_spreads_291 rfl ?_
      refine V_iload dX12_spreads_293 rfl ?_
      obtain ⟨y2, hc, hF⟩ := bd hF
      refine V_callV G dX12_spreads_295 kX12_382 (wd_at ht.1) ⟨by decide, rfl⟩ (s_X12_reaches ht G hc (by omega)) rfl (Nat.le_of_ble_eq_true rfl) (fun _ _ _ q => q.elim) ?_
      rintro _ _ ⟨rfl, rfl⟩
      obtain ⟨x3, qx3, hF⟩ := bnd_g hF
      refine B_iinc (v := 1) qx3 dX12_spreads_298 rfl (by decide) (by decide) ?_
      refine V_goto (tgt := 173) dX12_spreads_301 (by decide) ?_
      exact V_lv' (hk173 _ _ _ _ hF) (v_all_c rfl (v_all_c rfl (v_all_c rfl (v_all_c rfl (v_all_c rfl (v_all_c rfl (v_all_c rfl (v_all_c rfl v_all_n))))))))
    · replace hF := (if_neg c).symm.trans hF
      refine V_aload_n dX12_spreads_230 rfl ?_
      refine X_gC G dX12_spreads_231 fX12_82 ht.1 rfl ?_
      refine V_aload_n dX12_spreads_234 rfl ?_
      refine X_gC G dX12_spreads_235 fX12_66 ht.1 rfl ?_
      refine V_iload dX12_spreads_238 rfl ?_
      obtain ⟨hz, hF⟩ := gv_out hF
      refine X_iald dX12_spreads_240 ht.2.2.2.2.2.2.2.2.2.2.2.2.1 hz ?_
      refine V_iload dX12_spreads_241 rfl ?_
      refine V_iadd dX12_spreads_243 ?_
      refine V_aload_n dX12_spreads_244 rfl ?_
      refine X_gC G dX12_spreads_245 fX12_66 ht.1 rfl ?_
      refine V_iload dX12_spreads_248 rfl ?_
      refine V_iconst (v := 1) dX12_spreads_250 (by decide) ?_
      refine V_iadd dX12_spreads_251 ?_
      obtain ⟨hz, hF⟩ := gv_out hF
      refine X_iald dX12_spreads_252 ht.2.2.2.2.2.2.2.2.2.2.2.2.1 hz ?_
      refine V_iload dX12_spreads_253 rfl ?_
      refine V_iadd dX12_spreads_255 ?_
      obtain ⟨hz, hF⟩ := gv_out hF
      refine X_iast dX12_spreads_256 ht.2.2.2.2.2.2.2.2.2.2.2.2.2.2.2.2.2.1 hz ?_
      obtain ⟨S4, qS4, hF⟩ := bnd_g hF
      refine V_eqS qS4 ?_
      refine V_aload_n dX12_spreads_257 rfl ?_
      refine X_gC G dX12_spreads_258 fX12_82 ht.1 rfl ?_
      refine V_aload_n dX12_spreads_261 rfl ?_
      refine X_gC G dX12_spreads_262 fX12_66 ht.1 rfl ?_
      refine V_iload dX12_spreads_265 rfl ?_
      refine V_iconst (v := 1) dX12_spreads_267 (by decide) ?_
      refine V_iadd dX12_spreads_268 ?_
      obtain ⟨hz, hF⟩ := gv_out hF
      refine X_iald dX12_spreads_269 ht.2.2.2.2.2.2.2.2.2.2.2.2.1 hz ?_
      refine V_iload dX12_spreads_270 rfl ?_
      refine V_iadd dX12_spreads_272 ?_
      refine V_aload_n dX12_spreads_273 rfl ?_
      refine X_gC G dX12_spreads_274 fX12_66 ht.1 rfl ?_
      refine V_iload dX12_spreads_277 rfl ?_
      obtain ⟨hz, hF⟩ := gv_out hF
      refine X_iald dX12_spreads_279 ht.2.2.2.2.2.2.2.2.2.2.2.2.1 hz ?_
      refine V_iload dX12_spreads_280 rfl ?_
      refine V_iadd dX12_spreads_282 ?_
      obtain ⟨hz, hF⟩ := gv_out hF
      refine X_iast dX12_spreads_283 ht.2.2.2.2.2.2.2.2.2.2.2.2.2.2.2.2.2.1 hz ?_
      obtain ⟨S5, qS5, hF⟩ := bnd_g hF
      refine V_eqS qS5 ?_
      obtain ⟨x6, qx6, hF⟩ := bnd_g hF
      refine B_iinc (v := 1) qx6 dX12_spreads_284 rfl (by decide) (by decide) ?_
      refine V_goto (tgt := 211) dX12_spreads_287 (by decide) ?_
      exact V_lv' (ih _ _ _ _ _ hF) (v_all_c rfl (v_all_c rfl (v_all_c rfl (v_all_c rfl (v_all_c rfl (v_all_c rfl (v_all_c rfl (v_all_c rfl (v_all_c rfl v_all_n)))))))))
set_option maxRecDepth 100000 in
set_option maxHeartbeats 4000000 in
theorem w_X12_spreads_L173 {l : Launch} {s0 : State} {D : va_G} {a0 : Array Value} {sh : List Sh} {f : Nat} {t : Nat} {p1 : Nat} {p2 n2 : Nat} {p3 : Int32} {p4 : Int32} {p5 : Int32} (ht : isX12 sh t) (hp1 : isX10 sh p1) (hp2 : sh[p2]? = some (.inl (.int, n2))) {r : Int32 × St} {d : Nat} (G : GC l s0 D a0) (hd : 4 ≤ d + 1) {k30 : St → Int32 → Option (Int32 × St)} (hk30 : ∀ (S : St) (l6 : Int32), k30 S l6 = some r → V l s0 D (d + 1) 0 0 mX12_spreads (fun v h => v = some (.int r.1) ∧ h = wd s0.heap.size sh r.2) v_noX 30 [(0, .ref (s0.heap.size + t)), (1, .ref (s0.heap.size + p1)), (2, .ref (s0.heap.size + p2)), (3, .int p3), (5, .int p5), (6, .int l6)] [] (wd s0.heap.size sh S)) : ∀ (n : Nat) (S : St) (l6 : Int32) (l7 : Int32) (l8 : Int32), F_X12_spreads_L173 sh f t p1 p2 n2 p3 p4 p5 k30 n S l6 l7 l8 = some r → V l s0 D (d + 1) 0 0 mX12_spreads (fun v h => v = some (.int r.1) ∧ h = wd s0.heap.size sh r.2) v_noX 173 [(0, .ref (s0.heap.size + t)), (1, .ref (s0.heap.size + p1)), (2, .ref (s0.heap.size + p2)), (3, .int p3), (5, .int p5), (6, .int l6), (7, .int l7), (8, .int l8)] [] (wd s0.heap.size sh S) := by
  intro n
  induction n with
  | zero => intro S l6 l7 l8 hF; cases hF
  | succ n ih =>
    intro S l6 l7 l8 hF
    unfold F_X12_spreads_L173 at hF
    refine V_iload dX12_spreads_173 rfl ?_
    refine V_iconst (v := 1) dX12_spreads_175 (by decide) ?_
    refine V_iadd dX12_spreads_176 ?_
    refine V_aload_n dX12_spreads_177 rfl ?_
    refine X_gI G dX12_spreads_178 fX12_339 hp1.1 rfl ?_
    refine V_icmp_ge (tgt := 304) dX12_spreads_181 (by decide) (fun c => ?_) (fun c => ?_)
    · replace hF := (if_pos c).symm.trans hF
      refine V_goto (tgt := 30) dX12_spreads_304 (by decide) ?_
      exact V_lv' (hk30 _ _ hF) (v_all_c rfl (v_all_c rfl (v_all_c rfl (v_all_c rfl (v_all_c rfl (v_all_c rfl v_all_n))))))
    · replace hF := (if_neg c).symm.trans hF
      refine V_aload_n dX12_spreads_184 rfl ?_
      refine V_iload_n dX12_spreads_185 rfl ?_
      refine V_iload dX12_spreads_186 rfl ?_
      refine V_iadd dX12_spreads_188 ?_
      obtain ⟨hz, hF⟩ := gv_out hF
      refine X_iald dX12_spreads_189 hp2 hz ?_
      refine V_aload_n dX12_spreads_190 rfl ?_
      refine V_iload_n dX12_spreads_191 rfl ?_
      refine V_iload dX12_spreads_192 rfl ?_
      refine V_iadd dX12_spreads_194 ?_
      refine V_iconst (v := 1) dX12_spreads_195 (by decide) ?_
      refine V_iadd dX12_spreads_196 ?_
      obtain ⟨hz, hF⟩ := gv_out hF
      refine X_iald dX12_spreads_197 hp2 hz ?_
      refine V_icmp_eq (tgt := 204) dX12_spreads_198 (by decide) (fun c => ?_) (fun c => ?_)
      · replace hF := (if_pos c).symm.trans hF
        refine V_aload_n dX12_spreads_204 rfl ?_
        obtain ⟨y1, hc, hF⟩ := bd hF
        refine V_callV G dX12_spreads_205 kX12_379 (wd_at ht.1) ⟨by decide, rfl⟩ (s_X12_plainSwap ht G hc (by omega)) rfl (Nat.le_of_ble_eq_true rfl) (fun _ _ _ q => q.elim) ?_
        rintro _ _ ⟨rfl, rfl⟩
        refine V_iconst (v := 0) dX12_spreads_208 (by decide) ?_
        refine V_istore dX12_spreads_209 (by decide) ?_
        exact V_lv' (w_X12_spreads_L211 ht hp1 hp2 G hd ih f _ _ _ _ _ hF) (v_all_c rfl (v_all_c rfl (v_all_c rfl (v_all_c rfl (v_all_c rfl (v_all_c rfl (v_all_c rfl (v_all_c rfl (v_all_c rfl v_all_n)))))))))
      · replace hF := (if_neg c).symm.trans hF
        refine V_goto (tgt := 298) dX12_spreads_201 (by decide) ?_
        obtain ⟨x2, qx2, hF⟩ := bnd_g hF
        refine B_iinc (v := 1) qx2 dX12_spreads_298 rfl (by decide) (by decide) ?_
        refine V_goto (tgt := 173) dX12_spreads_301 (by decide) ?_
        exact V_lv' (ih _ _ _ _ hF) (v_all_c rfl (v_all_c rfl (v_all_c rfl (v_all_c rfl (v_all_c rfl (v_all_c rfl (v_all_c rfl (v_all_c rfl v_all_n))))))))
set_option maxRecDepth 100000 in
set_option maxHeartbeats 4000000 in
theorem w_X12_spreads_L67 {l : Launch} {s0 : State} {D : va_G} {a0 : Array Value} {sh : List Sh} {f : Nat} {t : Nat} {p1 : Nat} {p2 n2 : Nat} {p3 : Int32} {p4 : Int32} {p5 : Int32} (ht : isX12 sh t) (hp1 : isX10 sh p1) (hp2 : sh[p2]? = some (.inl (.int, n2))) {r : Int32 × St} {d : Nat} (G : GC l s0 D a0) (hd : 4 ≤ d + 1) {k30 : St → Int32 → Option (Int32 × St)} (hk30 : ∀ (S : St) (l6 : Int32), k30 S l6 = some r → V l s0 D (d + 1) 0 0 mX12_spreads (fun v h => v = some (.int r.1) ∧ h = wd s0.heap.size sh r.2) v_noX 30 [(0, .ref (s0.heap.size + t)), (1, .ref (s0.heap.size + p1)), (2, .ref (s0.heap.size + p2)), (3, .int p3), (5, .int p5), (6, .int l6)] [] (wd s0.heap.size sh S)) : ∀ (n : Nat) (S : St) (l6 : Int32) (l7 : Int32) (l8 : Int32), F_X12_spreads_L67 sh f t p1 p2 n2 p3 p4 p5 k30 n S l6 l7 l8 = some r → V l s0 D (d + 1) 0 0 mX12_spreads (fun v h => v = some (.int r.1) ∧ h = wd s0.heap.size sh r.2) v_noX 67 [(0, .ref (s0.heap.size + t)), (1, .ref (s0.heap.size + p1)), (2, .ref (s0.heap.size + p2)), (3, .int p3), (5, .int p5), (6, .int l6), (7, .int l7), (8, .int l8)] [] (wd s0.heap.size sh S) := by
  intro n
  induction n with
  | zero => intro S l6 l7 l8 hF; cases hF
  | succ n ih =>
    intro S l6 l7 l8 hF
    unfold F_X12_spreads_L67 at hF
    refine V_iload dX12_spreads_67 rfl ?_
    refine V_aload_n dX12_spreads_69 rfl ?_
    refine X_gI G dX12_spreads_70 fX12_331 ht.1 rfl ?_
    refine V_icmp_ge (tgt := 170) dX12_spreads_73 (by decide) (fun c => ?_) (fun c => ?_)
    · replace hF := (if_pos c).symm.trans hF
      refine V_iconst (v := 0) dX12_spreads_170 (by decide) ?_
      refine V_istore dX12_spreads_171 (by decide) ?_
      exact V_lv' (w_X12_spreads_L173 ht hp1 hp2 G hd hk30 f _ _ _ _ hF) (v_all_c rfl (v_all_c rfl (v_all_c rfl (v_all_c rfl (v_all_c rfl (v_all_c rfl (v_all_c rfl (v_all_c rfl v_all_n))))))))
    · replace hF := (if_neg c).symm.trans hF
      refine V_iload dX12_spreads_76 rfl ?_
      refine V_iconst (v := 1) dX12_spreads_78 (by decide) ?_
      refine V_iadd dX12_spreads_79 ?_
      obtain ⟨x1, qx1, hF⟩ := bnd_g hF
      refine B_istore qx1 dX12_spreads_80 (by decide) ?_
      exact V_lv' (w_X12_spreads_L82 ht hp1 hp2 G hd ih f _ _ _ _ _ hF) (v_all_c rfl (v_all_c rfl (v_all_c rfl (v_all_c rfl (v_all_c rfl (v_all_c rfl (v_all_c rfl (v_all_c rfl (v_all_c rfl v_all_n)))))))))
set_option maxRecDepth 100000 in
set_option maxHeartbeats 4000000 in
theorem w_X12_spreads_L30 {l : Launch} {s0 : State} {D : va_G} {a0 : Array Value} {sh : List Sh} {f : Nat} {t : Nat} {p1 : Nat} {p2 n2 : Nat} {p3 : Int32} {p4 : Int32} {p5 : Int32} (ht : isX12 sh t) (hp1 : isX10 sh p1) (hp2 : sh[p2]? = some (.inl (.int, n2))) {r : Int32 × St} {d : Nat} (G : GC l s0 D a0) (hd : 4 ≤ d + 1) : ∀ (n : Nat) (S : St) (l6 : Int32), F_X12_spreads_L30 sh f t p1 p2 n2 p3 p4 p5 n S l6 = some r → V l s0 D (d + 1) 0 0 mX12_spreads (fun v h => v = some (.int r.1) ∧ h = wd s0.heap.size sh r.2) v_noX 30 [(0, .ref (s0.heap.size + t)), (1, .ref (s0.heap.size + p1)), (2, .ref (s0.heap.size + p2)), (3, .int p3), (5, .int p5), (6, .int l6)] [] (wd s0.heap.size sh S) := by
  intro n
  induction n with
  | zero => intro S l6 hF; cases hF
  | succ n ih =>
    intro S l6 hF
    unfold F_X12_spreads_L30 at hF
    refine V_aload_n dX12_spreads_30 rfl ?_
    refine X_gI G dX12_spreads_31 fX12_376 ht.1 rfl ?_
    refine V_if_le (tgt := 307) dX12_spreads_34 (by decide) (fun c => ?_) (fun c => ?_)
    · replace hF := (if_pos c).symm.trans hF
      refine V_iload dX12_spreads_307 rfl ?_
      cases hF
      exact V_ireturn dX12_spreads_309 rfl rfl ⟨rfl, rfl⟩
    · replace hF := (if_neg c).symm.trans hF
      refine V_aload_n dX12_spreads_37 rfl ?_
      refine V_dup dX12_spreads_38 rfl ?_
      refine X_gI G dX12_spreads_39 fX12_376 ht.1 rfl ?_
      refine V_iconst (v := 1) dX12_spreads_42 (by decide) ?_
      refine V_isub dX12_spreads_43 ?_
      refine X_pI G dX12_spreads_44 gX12_376 ht.1 rfl rfl rfl ?_
      obtain ⟨S1, qS1, hF⟩ := bnd_g hF
      refine V_eqS qS1 ?_
      refine V_aload_n dX12_spreads_47 rfl ?_
      refine X_gC G dX12_spreads_48 fX12_79 ht.1 rfl ?_
      refine V_aload_n dX12_spreads_51 rfl ?_
      refine X_gI G dX12_spreads_52 fX12_376 ht.1 rfl ?_
      obtain ⟨hz, hF⟩ := gv_out hF
      refine X_iald dX12_spreads_55 ht.2.2.2.2.2.2.2.2.2.2.2.2.2.2.2.2.1 hz ?_
      obtain ⟨x2, qx2, hF⟩ := bnd_g hF
      refine B_istore qx2 dX12_spreads_56 (by decide) ?_
      obtain ⟨x3, qx3, hF⟩ := bnd_g hF
      refine B_iinc (v := 1) qx3 dX12_spreads_58 rfl (by decide) (by decide) ?_
      refine V_aload_n dX12_spreads_61 rfl ?_
      refine X_gI G dX12_spreads_62 fX12_333 hp1.1 rfl ?_
      obtain ⟨x4, qx4, hF⟩ := bnd_g hF
      refine B_istore qx4 dX12_spreads_65 (by decide) ?_
      exact V_lv' (w_X12_spreads_L67 ht hp1 hp2 G hd ih f _ _ _ _ hF) (v_all_c rfl (v_all_c rfl (v_all_c rfl (v_all_c rfl (v_all_c rfl (v_all_c rfl (v_all_c rfl (v_all_c rfl v_all_n))))))))
set_option maxRecDepth 100000 in
set_option maxHeartbeats 4000000 in
theorem s_X12_spreads {l : Launch} {s0 : State} {D : va_G} {a0 : Array Value} {sh : List Sh} {f : Nat} {S : St} {t : Nat} {p1 : Nat} {p2 n2 : Nat} {p3 : Int32} {p4 : Int32} {p5 : Int32} (ht : isX12 sh t) (hp1 : isX10 sh p1) (hp2 : sh[p2]? = some (.inl (.int, n2))) {r : Int32 × St} (G : GC l s0 D a0) (hF : F_X12_spreads sh f S t p1 p2 n2 p3 p4 p5 = some r) {d : Nat} (hd : 4 ≤ d) : Sp l s0 D d 0 0 mX12_spreads (fun v h => v = some (.int r.1) ∧ h = wd s0.heap.size sh r.2) v_noX [.ref (s0.heap.size + t), .ref (s0.heap.size + p1), .ref (s0.heap.size + p2), .int p3, .int p4, .int p5] (wd s0.heap.size sh S) := by
  obtain ⟨d, rfl⟩ : ∃ e, d = e + 1 := ⟨d - 1, by omega⟩
  refine Sp.of (by decide +kernel) rfl (Nat.le_of_ble_eq_true rfl) ?_
  unfold F_X12_spreads at hF
  refine V_aload_n dX12_spreads_0 rfl ?_
  refine V_iconst (v := 0) dX12_spreads_1 (by decide) ?_
  refine X_pI G dX12_spreads_2 gX12_376 ht.1 rfl rfl rfl ?_
  obtain ⟨S1, qS1, hF⟩ := bnd_g hF
  refine V_eqS qS1 ?_
  refine V_aload_n dX12_spreads_5 rfl ?_
  refine X_gC G dX12_spreads_6 fX12_76 ht.1 rfl ?_
  refine V_iload dX12_spreads_9 rfl ?_
  refine V_iload dX12_spreads_11 rfl ?_
  obtain ⟨hz, hF⟩ := gv_out hF
  refine X_iast dX12_spreads_13 ht.2.2.2.2.2.2.2.2.2.2.2.2.2.2.2.1 hz ?_
  obtain ⟨S2, qS2, hF⟩ := bnd_g hF
  refine V_eqS qS2 ?_
  refine V_aload_n dX12_spreads_14 rfl ?_
  refine X_gC G dX12_spreads_15 fX12_79 ht.1 rfl ?_
  refine V_iconst (v := 0) dX12_spreads_18 (by decide) ?_
  refine V_iload dX12_spreads_19 rfl ?_
  obtain ⟨hz, hF⟩ := gv_out hF
  refine X_iast dX12_spreads_21 ht.2.2.2.2.2.2.2.2.2.2.2.2.2.2.2.2.1 hz ?_
  obtain ⟨S3, qS3, hF⟩ := bnd_g hF
  refine V_eqS qS3 ?_
  refine V_aload_n dX12_spreads_22 rfl ?_
  refine V_iconst (v := 1) dX12_spreads_23 (by decide) ?_
  refine X_pI G dX12_spreads_24 gX12_376 ht.1 rfl rfl rfl ?_
  obtain ⟨S4, qS4, hF⟩ := bnd_g hF
  refine V_eqS qS4 ?_
  refine V_iconst (v := 0) dX12_spreads_27 (by decide) ?_
  refine V_istore dX12_spreads_28 (by decide) ?_
  exact V_lv' (w_X12_spreads_L30 ht hp1 hp2 G hd f _ _ hF) (v_all_c rfl (v_all_c rfl (v_all_c rfl (v_all_c rfl (v_all_c rfl (v_all_c rfl v_all_n))))))
set_option maxRecDepth 100000 in
set_option maxHeartbeats 4000000 in
theorem w_X12_namingsOf_L98 {l : Launch} {s0 : State} {D : va_G} {a0 : Array Value} {sh : List Sh} {f : Nat} {S : St} {t : Nat} {p1 : Nat} {p2 n2 : Nat} {p3 : Int32} (ht : isX12 sh t) (hp1 : isX10 sh p1) (hp2 : sh[p2]? = some (.inl (.int, n2))) {r : Int32} {d : Nat} (G : GC l s0 D a0) (hd : 1 ≤ d + 1) {k77 : Int32 → Int32 → Int32 → Int32 → Option (Int32)} (hk77 : ∀ (l4 : Int32) (l5 : Int32) (l7 : Int32) (l8 : Int32), k77 l4 l5 l7 l8 = some r → V l s0 D (d + 1) 0 0 mX12_namingsOf (fun v h => v = some (.int r) ∧ h = wd s0.heap.size sh S) v_noX 77 [(0, .ref (s0.heap.size + t)), (1, .ref (s0.heap.size + p1)), (2, .ref (s0.heap.size + p2)), (3, .int p3), (4, .int l4), (5, .int l5), (7, .int l7), (8, .int l8)] [] (wd s0.heap.size sh S)) : ∀ (n : Nat) (l4 : Int32) (l5 : Int32) (l7 : Int32) (l8 : Int32) (l9 : Int32) (l10 : Int32), F_X12_namingsOf_L98 sh f S t p1 p2 n2 p3 k77 n l4 l5 l7 l8 l9 l10 = some r → V l s0 D (d + 1) 0 0 mX12_namingsOf (fun v h => v = some (.int r) ∧ h = wd s0.heap.size sh S) v_noX 98 [(0, .ref (s0.heap.size + t)), (1, .ref (s0.heap.size + p1)), (2, .ref (s0.heap.size + p2)), (3, .int p3), (4, .int l4), (5, .int l5), (7, .int l7), (8, .int l8), (9, .int l9), (10, .int l10)] [] (wd s0.heap.size sh S) := by
  intro n
  induction n with
  | zero => intro l4 l5 l7 l8 l9 l10 hF; cases hF
  | succ n ih =>
    intro l4 l5 l7 l8 l9 l10 hF
    unfold F_X12_namingsOf_L98 at hF
    refine V_iload dX12_namingsOf_98 rfl ?_
    refine V_iload dX12_namingsOf_100 rfl ?_
    refine V_icmp_ge (tgt := 154) dX12_namingsOf_102 (by decide) (fun c => ?_) (fun c => ?_)
    · replace hF := (if_pos c).symm.trans hF
      refine V_iload dX12_namingsOf_154 rfl ?_
      refine V_iload dX12_namingsOf_156 rfl ?_
      refine V_imul dX12_namingsOf_158 ?_
      obtain ⟨x1, qx1, hF⟩ := bnd_g hF
      refine B_istore qx1 dX12_namingsOf_159 (by decide) ?_
      obtain ⟨x2, qx2, hF⟩ := bnd_g hF
      refine B_iinc (v := 1) qx2 dX12_namingsOf_161 rfl (by decide) (by decide) ?_
      refine V_goto (tgt := 77) dX12_namingsOf_164 (by decide) ?_
      exact V_lv' (hk77 _ _ _ _ hF) (v_all_c rfl (v_all_c rfl (v_all_c rfl (v_all_c rfl (v_all_c rfl (v_all_c rfl (v_all_c rfl (v_all_c rfl v_all_n))))))))
    · replace hF := (if_neg c).symm.trans hF
      refine V_iload dX12_namingsOf_105 rfl ?_
      refine V_aload_n dX12_namingsOf_107 rfl ?_
      obtain ⟨b3, hrb3, hF⟩ := bd hF
      obtain ⟨hb3, hF⟩ := gv_in hF
      replace hb3 := ckX9_ok hb3
      refine X_gR G dX12_namingsOf_108 fX12_312 ht.1 rfl hrb3 ?_
      refine X_gC G dX12_namingsOf_111 fX12_281 hb3.1 rfl ?_
      refine V_iconst (v := 4) dX12_namingsOf_114 (by decide) ?_
      refine V_iload dX12_namingsOf_115 rfl ?_
      refine V_imul dX12_namingsOf_117 ?_
      refine V_iload dX12_namingsOf_118 rfl ?_
      refine V_iadd dX12_namingsOf_120 ?_
      obtain ⟨hz, hF⟩ := gv_out hF
      refine X_iald dX12_namingsOf_121 hb3.2.2.2.2.2.2.2.1 hz ?_
      refine V_aload_n dX12_namingsOf_122 rfl ?_
      obtain ⟨b4, hrb4, hF⟩ := bd hF
      obtain ⟨hb4, hF⟩ := gv_in hF
      replace hb4 := ckX9_ok hb4
      refine X_gR G dX12_namingsOf_123 fX12_312 ht.1 rfl hrb4 ?_
      refine X_gC G dX12_namingsOf_126 fX12_281 hb4.1 rfl ?_
      refine V_iconst (v := 4) dX12_namingsOf_129 (by decide) ?_
      refine V_iload dX12_namingsOf_130 rfl ?_
      refine V_imul dX12_namingsOf_132 ?_
      refine V_iload dX12_namingsOf_133 rfl ?_
      refine V_iadd dX12_namingsOf_135 ?_
      obtain ⟨hz, hF⟩ := gv_out hF
      refine X_iald dX12_namingsOf_136 hb4.2.2.2.2.2.2.2.1 hz ?_
      refine V_icmp_ne (tgt := 144) dX12_namingsOf_137 (by decide) (fun c => ?_) (fun c => ?_)
      · replace hF := (if_neg c).symm.trans hF
        refine V_iconst (v := 0) dX12_namingsOf_144 (by decide) ?_
        refine V_iadd dX12_namingsOf_145 ?_
        obtain ⟨x5, qx5, hF⟩ := bnd_g hF
        refine B_istore qx5 dX12_namingsOf_146 (by decide) ?_
        obtain ⟨x6, qx6, hF⟩ := bnd_g hF
        refine B_iinc (v := 1) qx6 dX12_namingsOf_148 rfl (by decide) (by decide) ?_
        refine V_goto (tgt := 98) dX12_namingsOf_151 (by decide) ?_
        exact V_lv' (ih _ _ _ _ _ _ hF) (v_all_c rfl (v_all_c rfl (v_all_c rfl (v_all_c rfl (v_all_c rfl (v_all_c rfl (v_all_c rfl (v_all_c rfl (v_all_c rfl (v_all_c rfl v_all_n))))))))))
      · replace hF := (if_pos c).symm.trans hF
        refine V_iconst (v := 1) dX12_namingsOf_140 (by decide) ?_
        refine V_goto (tgt := 145) dX12_namingsOf_141 (by decide) ?_
        refine V_iadd dX12_namingsOf_145 ?_
        obtain ⟨x7, qx7, hF⟩ := bnd_g hF
        refine B_istore qx7 dX12_namingsOf_146 (by decide) ?_
        obtain ⟨x8, qx8, hF⟩ := bnd_g hF
        refine B_iinc (v := 1) qx8 dX12_namingsOf_148 rfl (by decide) (by decide) ?_
        refine V_goto (tgt := 98) dX12_namingsOf_151 (by decide) ?_
        exact V_lv' (ih _ _ _ _ _ _ hF) (v_all_c rfl (v_all_c rfl (v_all_c rfl (v_all_c rfl (v_all_c rfl (v_all_c rfl (v_all_c rfl (v_all_c rfl (v_all_c rfl (v_all_c rfl v_all_n))))))))))
set_option maxRecDepth 100000 in
set_option maxHeartbeats 4000000 in
theorem w_X12_namingsOf_L77 {l : Launch} {s0 : State} {D : va_G} {a0 : Array Value} {sh : List Sh} {f : Nat} {S : St} {t : Nat} {p1 : Nat} {p2 n2 : Nat} {p3 : Int32} (ht : isX12 sh t) (hp1 : isX10 sh p1) (hp2 : sh[p2]? = some (.inl (.int, n2))) {r : Int32} {d : Nat} (G : GC l s0 D a0) (hd : 1 ≤ d + 1) {k6 : Int32 → Int32 → Option (Int32)} (hk6 : ∀ (l4 : Int32) (l5 : Int32), k6 l4 l5 = some r → V l s0 D (d + 1) 0 0 mX12_namingsOf (fun v h => v = some (.int r) ∧ h = wd s0.heap.size sh S) v_noX 6 [(0, .ref (s0.heap.size + t)), (1, .ref (s0.heap.size + p1)), (2, .ref (s0.heap.size + p2)), (3, .int p3), (4, .int l4), (5, .int l5)] [] (wd s0.heap.size sh S)) : ∀ (n : Nat) (l4 : Int32) (l5 : Int32) (l7 : Int32) (l8 : Int32), F_X12_namingsOf_L77 sh f S t p1 p2 n2 p3 k6 n l4 l5 l7 l8 = some r → V l s0 D (d + 1) 0 0 mX12_namingsOf (fun v h => v = some (.int r) ∧ h = wd s0.heap.size sh S) v_noX 77 [(0, .ref (s0.heap.size + t)), (1, .ref (s0.heap.size + p1)), (2, .ref (s0.heap.size + p2)), (3, .int p3), (4, .int l4), (5, .int l5), (7, .int l7), (8, .int l8)] [] (wd s0.heap.size sh S) := by
  intro n
  induction n with
  | zero => intro l4 l5 l7 l8 hF; cases hF
  | succ n ih =>
    intro l4 l5 l7 l8 hF
    unfold F_X12_namingsOf_L77 at hF
    refine V_iload dX12_namingsOf_77 rfl ?_
    refine V_aload_n dX12_namingsOf_79 rfl ?_
    obtain ⟨b1, hrb1, hF⟩ := bd hF
    obtain ⟨hb1, hF⟩ := gv_in hF
    replace hb1 := ckX9_ok hb1
    refine X_gR G dX12_namingsOf_80 fX12_312 ht.1 rfl hrb1 ?_
    refine X_gC G dX12_namingsOf_83 fX12_284 hb1.1 rfl ?_
    refine V_iload dX12_namingsOf_86 rfl ?_
    obtain ⟨hz, hF⟩ := gv_out hF
    refine X_iald dX12_namingsOf_88 hb1.2.2.2.2.2.2.1 hz ?_
    refine V_icmp_ge (tgt := 167) dX12_namingsOf_89 (by decide) (fun c => ?_) (fun c => ?_)
    · replace hF := (if_pos c).symm.trans hF
      obtain ⟨x2, qx2, hF⟩ := bnd_g hF
      refine B_iinc (v := 1) qx2 dX12_namingsOf_167 rfl (by decide) (by decide) ?_
      refine V_goto (tgt := 6) dX12_namingsOf_170 (by decide) ?_
      exact V_lv' (hk6 _ _ hF) (v_all_c rfl (v_all_c rfl (v_all_c rfl (v_all_c rfl (v_all_c rfl (v_all_c rfl v_all_n))))))
    · replace hF := (if_neg c).symm.trans hF
      refine V_iconst (v := 1) dX12_namingsOf_92 (by decide) ?_
      refine V_istore dX12_namingsOf_93 (by decide) ?_
      refine V_iconst (v := 0) dX12_namingsOf_95 (by decide) ?_
      refine V_istore dX12_namingsOf_96 (by decide) ?_
      exact V_lv' (w_X12_namingsOf_L98 ht hp1 hp2 G hd ih f _ _ _ _ _ _ hF) (v_all_c rfl (v_all_c rfl (v_all_c rfl (v_all_c rfl (v_all_c rfl (v_all_c rfl (v_all_c rfl (v_all_c rfl (v_all_c rfl (v_all_c rfl v_all_n))))))))))
set_option maxRecDepth 100000 in
set_option maxHeartbeats 4000000 in
theorem w_X12_namingsOf_L21 {l : Launch} {s0 : State} {D : va_G} {a0 : Array Value} {sh : List Sh} {f : Nat} {S : St} {t : Nat} {p1 : Nat} {p2 n2 : Nat} {p3 : Int32} (ht : isX12 sh t) (hp1 : isX10 sh p1) (hp2 : sh[p2]? = some (.inl (.int, n2))) {r : Int32} {d : Nat} (G : GC l s0 D a0) (hd : 1 ≤ d + 1) {k6 : Int32 → Int32 → Option (Int32)} (hk6 : ∀ (l4 : Int32) (l5 : Int32), k6 l4 l5 = some r → V l s0 D (d + 1) 0 0 mX12_namingsOf (fun v h => v = some (.int r) ∧ h = wd s0.heap.size sh S) v_noX 6 [(0, .ref (s0.heap.size + t)), (1, .ref (s0.heap.size + p1)), (2, .ref (s0.heap.size + p2)), (3, .int p3), (4, .int l4), (5, .int l5)] [] (wd s0.heap.size sh S)) : ∀ (n : Nat) (l4 : Int32) (l5 : Int32) (l6 : Int32) (l7 : Int32), F_X12_namingsOf_L21 sh f S t p1 p2 n2 p3 k6 n l4 l5 l6 l7 = some r → V l s0 D (d + 1) 0 0 mX12_namingsOf (fun v h => v = some (.int r) ∧ h = wd s0.heap.size sh S) v_noX 21 [(0, .ref (s0.heap.size + t)), (1, .ref (s0.heap.size + p1)), (2, .ref (s0.heap.size + p2)), (3, .int p3), (4, .int l4), (5, .int l5), (6, .int l6), (7, .int l7)] [] (wd s0.heap.size sh S) := by
  intro n
  induction n with
  | zero => intro l4 l5 l6 l7 hF; cases hF
  | succ n ih =>
    intro l4 l5 l6 l7 hF
    unfold F_X12_namingsOf_L21 at hF
    refine V_iload dX12_namingsOf_21 rfl ?_
    refine V_iload dX12_namingsOf_23 rfl ?_
    refine V_icmp_ge (tgt := 59) dX12_namingsOf_25 (by decide) (fun c => ?_) (fun c => ?_)
    · replace hF := (if_pos c).symm.trans hF
      refine V_iload dX12_namingsOf_59 rfl ?_
      refine V_iload dX12_namingsOf_61 rfl ?_
      refine V_imul dX12_namingsOf_63 ?_
      obtain ⟨x1, qx1, hF⟩ := bnd_g hF
      refine B_istore qx1 dX12_namingsOf_64 (by decide) ?_
      refine V_aload_n dX12_namingsOf_66 rfl ?_
      refine V_iload_n dX12_namingsOf_67 rfl ?_
      refine V_iload dX12_namingsOf_68 rfl ?_
      refine V_iadd dX12_namingsOf_70 ?_
      obtain ⟨hz, hF⟩ := gv_out hF
      refine X_iald dX12_namingsOf_71 hp2 hz ?_
      obtain ⟨x2, qx2, hF⟩ := bnd_g hF
      refine B_istore qx2 dX12_namingsOf_72 (by decide) ?_
      refine V_iconst (v := 0) dX12_namingsOf_74 (by decide) ?_
      refine V_istore dX12_namingsOf_75 (by decide) ?_
      exact V_lv' (w_X12_namingsOf_L77 ht hp1 hp2 G hd hk6 f _ _ _ _ hF) (v_all_c rfl (v_all_c rfl (v_all_c rfl (v_all_c rfl (v_all_c rfl (v_all_c rfl (v_all_c rfl (v_all_c rfl v_all_n))))))))
    · replace hF := (if_neg c).symm.trans hF
      refine V_iload dX12_namingsOf_28 rfl ?_
      refine V_aload_n dX12_namingsOf_30 rfl ?_
      refine V_iload_n dX12_namingsOf_31 rfl ?_
      refine V_iload dX12_namingsOf_32 rfl ?_
      refine V_iadd dX12_namingsOf_34 ?_
      obtain ⟨hz, hF⟩ := gv_out hF
      refine X_iald dX12_namingsOf_35 hp2 hz ?_
      refine V_aload_n dX12_namingsOf_36 rfl ?_
      refine V_iload_n dX12_namingsOf_37 rfl ?_
      refine V_iload dX12_namingsOf_38 rfl ?_
      refine V_iadd dX12_namingsOf_40 ?_
      obtain ⟨hz, hF⟩ := gv_out hF
      refine X_iald dX12_namingsOf_41 hp2 hz ?_
      refine V_icmp_ne (tgt := 49) dX12_namingsOf_42 (by decide) (fun c => ?_) (fun c => ?_)
      · replace hF := (if_neg c).symm.trans hF
        refine V_iconst (v := 0) dX12_namingsOf_49 (by decide) ?_
        refine V_iadd dX12_namingsOf_50 ?_
        obtain ⟨x3, qx3, hF⟩ := bnd_g hF
        refine B_istore qx3 dX12_namingsOf_51 (by decide) ?_
        obtain ⟨x4, qx4, hF⟩ := bnd_g hF
        refine B_iinc (v := 1) qx4 dX12_namingsOf_53 rfl (by decide) (by decide) ?_
        refine V_goto (tgt := 21) dX12_namingsOf_56 (by decide) ?_
        exact V_lv' (ih _ _ _ _ hF) (v_all_c rfl (v_all_c rfl (v_all_c rfl (v_all_c rfl (v_all_c rfl (v_all_c rfl (v_all_c rfl (v_all_c rfl v_all_n))))))))
      · replace hF := (if_pos c).symm.trans hF
        refine V_iconst (v := 1) dX12_namingsOf_45 (by decide) ?_
        refine V_goto (tgt := 50) dX12_namingsOf_46 (by decide) ?_
        refine V_iadd dX12_namingsOf_50 ?_
        obtain ⟨x5, qx5, hF⟩ := bnd_g hF
        refine B_istore qx5 dX12_namingsOf_51 (by decide) ?_
        obtain ⟨x6, qx6, hF⟩ := bnd_g hF
        refine B_iinc (v := 1) qx6 dX12_namingsOf_53 rfl (by decide) (by decide) ?_
        refine V_goto (tgt := 21) dX12_namingsOf_56 (by decide) ?_
        exact V_lv' (ih _ _ _ _ hF) (v_all_c rfl (v_all_c rfl (v_all_c rfl (v_all_c rfl (v_all_c rfl (v_all_c rfl (v_all_c rfl (v_all_c rfl v_all_n))))))))
set_option maxRecDepth 100000 in
set_option maxHeartbeats 4000000 in
theorem w_X12_namingsOf_L6 {l : Launch} {s0 : State} {D : va_G} {a0 : Array Value} {sh : List Sh} {f : Nat} {S : St} {t : Nat} {p1 : Nat} {p2 n2 : Nat} {p3 : Int32} (ht : isX12 sh t) (hp1 : isX10 sh p1) (hp2 : sh[p2]? = some (.inl (.int, n2))) {r : Int32} {d : Nat} (G : GC l s0 D a0) (hd : 1 ≤ d + 1) : ∀ (n : Nat) (l4 : Int32) (l5 : Int32), F_X12_namingsOf_L6 sh f S t p1 p2 n2 p3 n l4 l5 = some r → V l s0 D (d + 1) 0 0 mX12_namingsOf (fun v h => v = some (.int r) ∧ h = wd s0.heap.size sh S) v_noX 6 [(0, .ref (s0.heap.size + t)), (1, .ref (s0.heap.size + p1)), (2, .ref (s0.heap.size + p2)), (3, .int p3), (4, .int l4), (5, .int l5)] [] (wd s0.heap.size sh S) := by
  intro n
  induction n with
  | zero => intro l4 l5 hF; cases hF
  | succ n ih =>
    intro l4 l5 hF
    unfold F_X12_namingsOf_L6 at hF
    refine V_iload dX12_namingsOf_6 rfl ?_
    refine V_aload_n dX12_namingsOf_8 rfl ?_
    refine X_gI G dX12_namingsOf_9 fX12_339 hp1.1 rfl ?_
    refine V_icmp_ge (tgt := 173) dX12_namingsOf_12 (by decide) (fun c => ?_) (fun c => ?_)
    · replace hF := (if_pos c).symm.trans hF
      refine V_iload dX12_namingsOf_173 rfl ?_
      cases hF
      exact V_ireturn dX12_namingsOf_175 rfl rfl ⟨rfl, rfl⟩
    · replace hF := (if_neg c).symm.trans hF
      refine V_iconst (v := 1) dX12_namingsOf_15 (by decide) ?_
      refine V_istore dX12_namingsOf_16 (by decide) ?_
      refine V_iconst (v := 0) dX12_namingsOf_18 (by decide) ?_
      refine V_istore dX12_namingsOf_19 (by decide) ?_
      exact V_lv' (w_X12_namingsOf_L21 ht hp1 hp2 G hd ih f _ _ _ _ hF) (v_all_c rfl (v_all_c rfl (v_all_c rfl (v_all_c rfl (v_all_c rfl (v_all_c rfl (v_all_c rfl (v_all_c rfl v_all_n))))))))
set_option maxRecDepth 100000 in
set_option maxHeartbeats 4000000 in
theorem s_X12_namingsOf {l : Launch} {s0 : State} {D : va_G} {a0 : Array Value} {sh : List Sh} {f : Nat} {S : St} {t : Nat} {p1 : Nat} {p2 n2 : Nat} {p3 : Int32} (ht : isX12 sh t) (hp1 : isX10 sh p1) (hp2 : sh[p2]? = some (.inl (.int, n2))) {r : Int32} (G : GC l s0 D a0) (hF : F_X12_namingsOf sh f S t p1 p2 n2 p3 = some r) {d : Nat} (hd : 1 ≤ d) : Sp l s0 D d 0 0 mX12_namingsOf (fun v h => v = some (.int r) ∧ h = wd s0.heap.size sh S) v_noX [.ref (s0.heap.size + t), .ref (s0.heap.size + p1), .ref (s0.heap.size + p2), .int p3] (wd s0.heap.size sh S) := by
  obtain ⟨d, rfl⟩ : ∃ e, d = e + 1 := ⟨d - 1, by omega⟩
  refine Sp.of (by decide +kernel) rfl (Nat.le_of_ble_eq_true rfl) ?_
  unfold F_X12_namingsOf at hF
  refine V_iconst (v := 1) dX12_namingsOf_0 (by decide) ?_
  refine V_istore dX12_namingsOf_1 (by decide) ?_
  refine V_iconst (v := 0) dX12_namingsOf_3 (by decide) ?_
  refine V_istore dX12_namingsOf_4 (by decide) ?_
  exact V_lv' (w_X12_namingsOf_L6 ht hp1 hp2 G hd f _ _ hF) (v_all_c rfl (v_all_c rfl (v_all_c rfl (v_all_c rfl (v_all_c rfl (v_all_c rfl v_all_n))))))
set_option maxRecDepth 100000 in
set_option maxHeartbeats 4000000 in
theorem w_X12_listsOf_L84 {l : Launch} {s0 : State} {D : va_G} {a0 : Array Value} {sh : List Sh} {f : Nat} {t : Nat} {p1 : Nat} (ht : isX12 sh t) (hp1 : isX10 sh p1) {r : Int32 × St} {d : Nat} (G : GC l s0 D a0) (hd : 15 ≤ d + 1) {k32 : St → Int32 → Int32 → Option (Int32 × St)} (hk32 : ∀ (S : St) (l2 : Int32) (l3 : Int32), k32 S l2 l3 = some r → V l s0 D (d + 1) 0 0 mX12_listsOf (fun v h => v = some (.int r.1) ∧ h = wd s0.heap.size sh r.2) v_noX 32 [(0, .ref (s0.heap.size + t)), (1, .ref (s0.heap.size + p1)), (2, .int l2), (3, .int l3)] [] (wd s0.heap.size sh S)) : ∀ (n : Nat) (S : St) (l2 : Int32) (l3 : Int32) (l4 : Int32) (l5 : Int32), F_X12_listsOf_L84 sh f t p1 k32 n S l2 l3 l4 l5 = some r → V l s0 D (d + 1) 0 0 mX12_listsOf (fun v h => v = some (.int r.1) ∧ h = wd s0.heap.size sh r.2) v_noX 84 [(0, .ref (s0.heap.size + t)), (1, .ref (s0.heap.size + p1)), (2, .int l2), (3, .int l3), (4, .int l4), (5, .int l5)] [] (wd s0.heap.size sh S) := by
  intro n
  induction n with
  | zero => intro S l2 l3 l4 l5 hF; cases hF
  | succ n ih =>
    intro S l2 l3 l4 l5 hF
    unfold F_X12_listsOf_L84 at hF
    refine V_iload dX12_listsOf_84 rfl ?_
    refine V_aload_n dX12_listsOf_86 rfl ?_
    refine X_gI G dX12_listsOf_87 fX12_339 hp1.1 rfl ?_
    refine V_icmp_ge (tgt := 118) dX12_listsOf_90 (by decide) (fun c => ?_) (fun c => ?_)
    · replace hF := (if_pos c).symm.trans hF
      refine V_aload_n dX12_listsOf_118 rfl ?_
      refine X_gC G dX12_listsOf_119 fX12_410 hp1.1 rfl ?_
      refine V_iload dX12_listsOf_122 rfl ?_
      refine V_aload_n dX12_listsOf_124 rfl ?_
      refine X_gC G dX12_listsOf_125 fX12_72 ht.1 rfl ?_
      refine V_iload_n dX12_listsOf_128 rfl ?_
      obtain ⟨hz, hF⟩ := gv_out hF
      refine X_lald dX12_listsOf_129 ht.2.2.2.2.2.2.2.2.2.2.2.2.2.2.1 hz ?_
      obtain ⟨hz, hF⟩ := gv_out hF
      refine X_last dX12_listsOf_130 hp1.2.2.2.2.2.2 hz ?_
      obtain ⟨S1, qS1, hF⟩ := bnd_g hF
      refine V_eqS qS1 ?_
      refine V_aload_n dX12_listsOf_131 rfl ?_
      refine X_gC G dX12_listsOf_132 fX12_413 hp1.1 rfl ?_
      refine V_iload dX12_listsOf_135 rfl ?_
      refine V_iload_n dX12_listsOf_137 rfl ?_
      obtain ⟨hz, hF⟩ := gv_out hF
      refine X_iast dX12_listsOf_138 hp1.2.2.2.2.2.1 hz ?_
      obtain ⟨S2, qS2, hF⟩ := bnd_g hF
      refine V_eqS qS2 ?_
      refine V_aload_n dX12_listsOf_139 rfl ?_
      refine X_gC G dX12_listsOf_140 fX12_416 hp1.1 rfl ?_
      refine V_iload dX12_listsOf_143 rfl ?_
      refine V_aload_n dX12_listsOf_145 rfl ?_
      refine V_aload_n dX12_listsOf_146 rfl ?_
      refine V_aload_n dX12_listsOf_147 rfl ?_
      refine X_gC G dX12_listsOf_148 fX12_88 ht.1 rfl ?_
      refine V_iconst (v := 0) dX12_listsOf_151 (by decide) ?_
      refine V_iload_n dX12_listsOf_152 rfl ?_
      refine V_iload dX12_listsOf_153 rfl ?_
      obtain ⟨y3, hc, hF⟩ := bd hF
      refine V_callV G dX12_listsOf_155 kX12_419 (wd_at ht.1) ⟨by decide, rfl⟩ (s_X12_spreads ht hp1 ht.2.2.2.2.2.2.2.2.2.2.2.2.2.2.2.2.2.2.2.1 G hc (by omega)) rfl (Nat.le_of_ble_eq_true rfl) (fun _ _ _ q => q.elim) ?_
      rintro _ _ ⟨rfl, rfl⟩
      obtain ⟨hz, hF⟩ := gv_out hF
      refine X_iast dX12_listsOf_158 hp1.2.2.2.2.1 hz ?_
      obtain ⟨S4, qS4, hF⟩ := bnd_g hF
      refine V_eqS qS4 ?_
      refine V_aload_n dX12_listsOf_159 rfl ?_
      refine V_dup dX12_listsOf_160 rfl ?_
      refine X_gI G dX12_listsOf_161 fX12_423 hp1.1 rfl ?_
      refine V_aload_n dX12_listsOf_164 rfl ?_
      refine X_gC G dX12_listsOf_165 fX12_416 hp1.1 rfl ?_
      refine V_iload dX12_listsOf_168 rfl ?_
      obtain ⟨hz, hF⟩ := gv_out hF
      refine X_iald dX12_listsOf_170 hp1.2.2.2.2.1 hz ?_
      refine V_iadd dX12_listsOf_171 ?_
      refine X_pI G dX12_listsOf_172 gX12_423 hp1.1 rfl rfl rfl ?_
      obtain ⟨S5, qS5, hF⟩ := bnd_g hF
      refine V_eqS qS5 ?_
      obtain ⟨x6, qx6, hF⟩ := bnd_g hF
      refine B_iinc (v := 1) qx6 dX12_listsOf_175 rfl (by decide) (by decide) ?_
      refine V_goto (tgt := 32) dX12_listsOf_178 (by decide) ?_
      exact V_lv' (hk32 _ _ _ hF) (v_all_c rfl (v_all_c rfl (v_all_c rfl (v_all_c rfl v_all_n))))
    · replace hF := (if_neg c).symm.trans hF
      refine V_aload_n dX12_listsOf_93 rfl ?_
      refine X_gC G dX12_listsOf_94 fX12_407 hp1.1 rfl ?_
      refine V_iconst (v := 3) dX12_listsOf_97 (by decide) ?_
      refine V_iload dX12_listsOf_98 rfl ?_
      refine V_imul dX12_listsOf_100 ?_
      refine V_iload dX12_listsOf_101 rfl ?_
      refine V_iadd dX12_listsOf_103 ?_
      refine V_aload_n dX12_listsOf_104 rfl ?_
      refine X_gC G dX12_listsOf_105 fX12_88 ht.1 rfl ?_
      refine V_iload dX12_listsOf_108 rfl ?_
      obtain ⟨hz, hF⟩ := gv_out hF
      refine X_iald dX12_listsOf_110 ht.2.2.2.2.2.2.2.2.2.2.2.2.2.2.2.2.2.2.2.1 hz ?_
      obtain ⟨hz, hF⟩ := gv_out hF
      refine X_iast dX12_listsOf_111 hp1.2.2.2.1 hz ?_
      obtain ⟨S7, qS7, hF⟩ := bnd_g hF
      refine V_eqS qS7 ?_
      obtain ⟨x8, qx8, hF⟩ := bnd_g hF
      refine B_iinc (v := 1) qx8 dX12_listsOf_112 rfl (by decide) (by decide) ?_
      refine V_goto (tgt := 84) dX12_listsOf_115 (by decide) ?_
      exact V_lv' (ih _ _ _ _ _ hF) (v_all_c rfl (v_all_c rfl (v_all_c rfl (v_all_c rfl (v_all_c rfl (v_all_c rfl v_all_n))))))
set_option maxRecDepth 100000 in
set_option maxHeartbeats 4000000 in
theorem w_X12_listsOf_L32 {l : Launch} {s0 : State} {D : va_G} {a0 : Array Value} {sh : List Sh} {f : Nat} {t : Nat} {p1 : Nat} (ht : isX12 sh t) (hp1 : isX10 sh p1) {r : Int32 × St} {d : Nat} (G : GC l s0 D a0) (hd : 15 ≤ d + 1) : ∀ (n : Nat) (S : St) (l2 : Int32) (l3 : Int32), F_X12_listsOf_L32 sh f t p1 n S l2 l3 = some r → V l s0 D (d + 1) 0 0 mX12_listsOf (fun v h => v = some (.int r.1) ∧ h = wd s0.heap.size sh r.2) v_noX 32 [(0, .ref (s0.heap.size + t)), (1, .ref (s0.heap.size + p1)), (2, .int l2), (3, .int l3)] [] (wd s0.heap.size sh S) := by
  intro n
  induction n with
  | zero => intro S l2 l3 hF; cases hF
  | succ n ih =>
    intro S l2 l3 hF
    unfold F_X12_listsOf_L32 at hF
    refine V_iload_n dX12_listsOf_32 rfl ?_
    refine V_aload_n dX12_listsOf_33 rfl ?_
    refine X_gI G dX12_listsOf_34 fX12_353 ht.1 rfl ?_
    refine V_icmp_ge (tgt := 181) dX12_listsOf_37 (by decide) (fun c => ?_) (fun c => ?_)
    · replace hF := (if_pos c).symm.trans hF
      refine V_iconst (v := 1) dX12_listsOf_181 (by decide) ?_
      cases hF
      exact V_ireturn dX12_listsOf_182 rfl (by decide) ⟨rfl, rfl⟩
    · replace hF := (if_neg c).symm.trans hF
      refine V_aload_n dX12_listsOf_40 rfl ?_
      refine X_gC G dX12_listsOf_41 fX12_76 ht.1 rfl ?_
      refine V_iload_n dX12_listsOf_44 rfl ?_
      obtain ⟨hz, hF⟩ := gv_out hF
      refine X_iald dX12_listsOf_45 ht.2.2.2.2.2.2.2.2.2.2.2.2.2.2.2.1 hz ?_
      refine V_iconst (v := -1) dX12_listsOf_46 (by decide) ?_
      refine V_icmp_eq (tgt := 53) dX12_listsOf_47 (by decide) (fun c => ?_) (fun c => ?_)
      · replace hF := (if_pos c).symm.trans hF
        refine V_aload_n dX12_listsOf_53 rfl ?_
        refine X_gI G dX12_listsOf_54 fX12_404 hp1.1 rfl ?_
        refine V_sipush (v := 200) dX12_listsOf_57 (by decide) ?_
        refine V_icmp_ne (tgt := 65) dX12_listsOf_60 (by decide) (fun c => ?_) (fun c => ?_)
        · replace hF := (if_neg c).symm.trans hF
          refine V_aload_n dX12_listsOf_65 rfl ?_
          refine X_gI G dX12_listsOf_66 fX12_404 hp1.1 rfl ?_
          obtain ⟨x1, qx1, hF⟩ := bnd_g hF
          refine B_istore qx1 dX12_listsOf_69 (by decide) ?_
          refine V_aload_n dX12_listsOf_71 rfl ?_
          refine V_dup dX12_listsOf_72 rfl ?_
          refine X_gI G dX12_listsOf_73 fX12_404 hp1.1 rfl ?_
          refine V_iconst (v := 1) dX12_listsOf_76 (by decide) ?_
          refine V_iadd dX12_listsOf_77 ?_
          refine X_pI G dX12_listsOf_78 gX12_404 hp1.1 rfl rfl rfl ?_
          obtain ⟨S2, qS2, hF⟩ := bnd_g hF
          refine V_eqS qS2 ?_
          refine V_iconst (v := 0) dX12_listsOf_81 (by decide) ?_
          refine V_istore dX12_listsOf_82 (by decide) ?_
          exact V_lv' (w_X12_listsOf_L84 ht hp1 G hd ih f _ _ _ _ _ hF) (v_all_c rfl (v_all_c rfl (v_all_c rfl (v_all_c rfl (v_all_c rfl (v_all_c rfl v_all_n))))))
        · replace hF := (if_pos c).symm.trans hF
          refine V_iconst (v := 0) dX12_listsOf_63 (by decide) ?_
          cases hF
          exact V_ireturn dX12_listsOf_64 rfl (by decide) ⟨rfl, rfl⟩
      · replace hF := (if_neg c).symm.trans hF
        refine V_goto (tgt := 175) dX12_listsOf_50 (by decide) ?_
        obtain ⟨x3, qx3, hF⟩ := bnd_g hF
        refine B_iinc (v := 1) qx3 dX12_listsOf_175 rfl (by decide) (by decide) ?_
        refine V_goto (tgt := 32) dX12_listsOf_178 (by decide) ?_
        exact V_lv' (ih _ _ _ hF) (v_all_c rfl (v_all_c rfl (v_all_c rfl (v_all_c rfl v_all_n))))
set_option maxRecDepth 100000 in
set_option maxHeartbeats 4000000 in
theorem s_X12_listsOf {l : Launch} {s0 : State} {D : va_G} {a0 : Array Value} {sh : List Sh} {f : Nat} {S : St} {t : Nat} {p1 : Nat} (ht : isX12 sh t) (hp1 : isX10 sh p1) {r : Int32 × St} (G : GC l s0 D a0) (hF : F_X12_listsOf sh f S t p1 = some r) {d : Nat} (hd : 15 ≤ d) : Sp l s0 D d 0 0 mX12_listsOf (fun v h => v = some (.int r.1) ∧ h = wd s0.heap.size sh r.2) v_noX [.ref (s0.heap.size + t), .ref (s0.heap.size + p1)] (wd s0.heap.size sh S) := by
  obtain ⟨d, rfl⟩ : ∃ e, d = e + 1 := ⟨d - 1, by omega⟩
  refine Sp.of (by decide +kernel) rfl (Nat.le_of_ble_eq_true rfl) ?_
  unfold F_X12_listsOf at hF
  refine V_aload_n dX12_listsOf_0 rfl ?_
  refine V_aload_n dX12_listsOf_1 rfl ?_
  refine V_aload_n dX12_listsOf_2 rfl ?_
  refine X_gC G dX12_listsOf_3 fX12_88 ht.1 rfl ?_
  refine V_iconst (v := 0) dX12_listsOf_6 (by decide) ?_
  obtain ⟨y1, hc, hF⟩ := bd hF
  refine V_callV G dX12_listsOf_7 kX12_393 (wd_at ht.1) ⟨by decide, rfl⟩ (s_X12_lays ht hp1 ht.2.2.2.2.2.2.2.2.2.2.2.2.2.2.2.2.2.2.2.1 G hc (by omega)) rfl (Nat.le_of_ble_eq_true rfl) (fun _ _ _ q => q.elim) ?_
  rintro _ _ ⟨rfl, rfl⟩
  refine V_if_ne (tgt := 15) dX12_listsOf_10 (by decide) (fun c => ?_) (fun c => ?_)
  · replace hF := (if_neg c).symm.trans hF
    refine V_aload_n dX12_listsOf_15 rfl ?_
    obtain ⟨y2, hc, hF⟩ := bd hF
    refine V_callV G dX12_listsOf_16 kX12_397 (wd_at ht.1) ⟨by decide, rfl⟩ (s_X12_pairs ht G hc (by omega)) rfl (Nat.le_of_ble_eq_true rfl) (fun _ _ _ q => q.elim) ?_
    rintro _ _ ⟨rfl, rfl⟩
    refine V_aload_n dX12_listsOf_19 rfl ?_
    refine V_aload_n dX12_listsOf_20 rfl ?_
    refine V_aload_n dX12_listsOf_21 rfl ?_
    refine X_gC G dX12_listsOf_22 fX12_88 ht.1 rfl ?_
    refine V_iconst (v := 0) dX12_listsOf_25 (by decide) ?_
    obtain ⟨y3, hc, hF⟩ := bd hF
    refine V_callV G dX12_listsOf_26 kX12_400 (wd_at ht.1) ⟨by decide, rfl⟩ (s_X12_namingsOf ht hp1 ht.2.2.2.2.2.2.2.2.2.2.2.2.2.2.2.2.2.2.2.1 G hc (by omega)) rfl (Nat.le_of_ble_eq_true rfl) (fun _ _ _ q => q.elim) ?_
    rintro _ _ ⟨rfl, rfl⟩
    refine V_istore_n dX12_listsOf_29 (by decide) ?_
    refine V_iconst (v := 0) dX12_listsOf_30 (by decide) ?_
    refine V_istore_n dX12_listsOf_31 (by decide) ?_
    exact V_lv' (w_X12_listsOf_L32 ht hp1 G hd f _ _ _ hF) (v_all_c rfl (v_all_c rfl (v_all_c rfl (v_all_c rfl v_all_n))))
  · replace hF := (if_pos c).symm.trans hF
    refine V_iconst (v := 1) dX12_listsOf_13 (by decide) ?_
    cases hF
    exact V_ireturn dX12_listsOf_14 rfl (by decide) ⟨rfl, rfl⟩
set_option maxRecDepth 100000 in
set_option maxHeartbeats 4000000 in
theorem w_X12_lists_L17 {l : Launch} {s0 : State} {D : va_G} {a0 : Array Value} {sh : List Sh} {f : Nat} {t : Nat} {p1 : Nat} {p2 : Int32} {p3 : Int32} (ht : isX12 sh t) (hp1 : isX10 sh p1) {r : Int32 × St} {d : Nat} (G : GC l s0 D a0) (hd : 16 ≤ d + 1) {kR : St → Nat → Nat → Int32 → Int32 → Option (Int32 × St)} (hkR : ∀ (S : St) (t : Nat) (p1 : Nat) (p2 : Int32) (p3 : Int32) (r : Int32 × St), isX12 sh t → isX10 sh p1 → kR S t p1 p2 p3 = some r → Sp l s0 D d 0 0 mX12_lists (fun v h => v = some (.int r.1) ∧ h = wd s0.heap.size sh r.2) v_noX [.ref (s0.heap.size + t), .ref (s0.heap.size + p1), .int p2, .int p3] (wd s0.heap.size sh S)) : ∀ (n : Nat) (S : St) (l4 : Int32), F_X12_lists_L17 sh f t p1 p2 p3 kR n S l4 = some r → V l s0 D (d + 1) 0 0 mX12_lists (fun v h => v = some (.int r.1) ∧ h = wd s0.heap.size sh r.2) v_noX 17 [(0, .ref (s0.heap.size + t)), (1, .ref (s0.heap.size + p1)), (2, .int p2), (4, .int l4)] [] (wd s0.heap.size sh S) := by
  intro n
  induction n with
  | zero => intro S l4 hF; cases hF
  | succ n ih =>
    intro S l4 hF
    unfold F_X12_lists_L17 at hF
    refine V_iload dX12_lists_17 rfl ?_
    refine V_aload_n dX12_lists_19 rfl ?_
    obtain ⟨b1, hrb1, hF⟩ := bd hF
    obtain ⟨hb1, hF⟩ := gv_in hF
    replace hb1 := ckX9_ok hb1
    refine X_gR G dX12_lists_20 fX12_312 ht.1 rfl hrb1 ?_
    refine X_gI G dX12_lists_23 fX12_278 hb1.1 rfl ?_
    refine V_icmp_ge (tgt := 58) dX12_lists_26 (by decide) (fun c => ?_) (fun c => ?_)
    · replace hF := (if_pos c).symm.trans hF
      refine V_iconst (v := 1) dX12_lists_58 (by decide) ?_
      cases hF
      exact V_ireturn dX12_lists_59 rfl (by decide) ⟨rfl, rfl⟩
    · replace hF := (if_neg c).symm.trans hF
      refine V_aload_n dX12_lists_29 rfl ?_
      refine X_gC G dX12_lists_30 fX12_88 ht.1 rfl ?_
      refine V_iload_n dX12_lists_33 rfl ?_
      refine V_iload dX12_lists_34 rfl ?_
      obtain ⟨hz, hF⟩ := gv_out hF
      refine X_iast dX12_lists_36 ht.2.2.2.2.2.2.2.2.2.2.2.2.2.2.2.2.2.2.2.1 hz ?_
      obtain ⟨S2, qS2, hF⟩ := bnd_g hF
      refine V_eqS qS2 ?_
      refine V_aload_n dX12_lists_37 rfl ?_
      refine V_aload_n dX12_lists_38 rfl ?_
      refine V_iload_n dX12_lists_39 rfl ?_
      refine V_iconst (v := 1) dX12_lists_40 (by decide) ?_
      refine V_iadd dX12_lists_41 ?_
      refine V_iload dX12_lists_42 rfl ?_
      obtain ⟨y3, hc, hF⟩ := bd hF
      refine V_callV G dX12_lists_44 kX12_389 (wd_at ht.1) ⟨by decide, rfl⟩ (hkR _ _ _ _ _ _ ht hp1 hc) rfl (Nat.le_of_ble_eq_true rfl) (fun _ _ _ q => q.elim) ?_
      rintro _ _ ⟨rfl, rfl⟩
      refine V_if_ne (tgt := 52) dX12_lists_47 (by decide) (fun c => ?_) (fun c => ?_)
      · replace hF := (if_neg c).symm.trans hF
        obtain ⟨x4, qx4, hF⟩ := bnd_g hF
        refine B_iinc (v := 1) qx4 dX12_lists_52 rfl (by decide) (by decide) ?_
        refine V_goto (tgt := 17) dX12_lists_55 (by decide) ?_
        exact V_lv' (ih _ _ hF) (v_all_c rfl (v_all_c rfl (v_all_c rfl (v_all_c rfl v_all_n))))
      · replace hF := (if_pos c).symm.trans hF
        refine V_iconst (v := 0) dX12_lists_50 (by decide) ?_
        cases hF
        exact V_ireturn dX12_lists_51 rfl (by decide) ⟨rfl, rfl⟩
set_option maxRecDepth 100000 in
set_option maxHeartbeats 4000000 in
theorem s_X12_lists {l : Launch} {s0 : State} {D : va_G} {a0 : Array Value} {sh : List Sh} {f : Nat} (G : GC l s0 D a0) : ∀ (e : Nat) (S : St) (t : Nat) (p1 : Nat) (p2 : Int32) (p3 : Int32) (r : Int32 × St), isX12 sh t → isX10 sh p1 → F_X12_lists sh f e S t p1 p2 p3 = some r → ∀ d : Nat, 16 + e ≤ d + 1 → Sp l s0 D d 0 0 mX12_lists (fun v h => v = some (.int r.1) ∧ h = wd s0.heap.size sh r.2) v_noX [.ref (s0.heap.size + t), .ref (s0.heap.size + p1), .int p2, .int p3] (wd s0.heap.size sh S) := by
  intro e
  induction e with
  | zero => intro S t p1 p2 p3 r ht hp1 hF d hd; cases hF
  | succ e ih =>
    intro S t p1 p2 p3 r ht hp1 hF d hd
    obtain ⟨d, rfl⟩ : ∃ z, d = z + 1 := ⟨d - 1, by omega⟩
    have hkR : ∀ (S : St) (t : Nat) (p1 : Nat) (p2 : Int32) (p3 : Int32) (r : Int32 × St), isX12 sh t → isX10 sh p1 → (F_X12_lists sh f e) S t p1 p2 p3 = some r → Sp l s0 D d 0 0 mX12_lists (fun v h => v = some (.int r.1) ∧ h = wd s0.heap.size sh r.2) v_noX [.ref (s0.heap.size + t), .ref (s0.heap.size + p1), .int p2, .int p3] (wd s0.heap.size sh S) := fun S t p1 p2 p3 r ht hp1 hF => ih S t p1 p2 p3 r ht hp1 hF d (by omega)
    refine Sp.of (by decide +kernel) rfl (Nat.le_of_ble_eq_true rfl) ?_
    unfold F_X12_lists at hF
    refine V_iload_n dX12_lists_0 rfl ?_
    refine V_aload_n dX12_lists_1 rfl ?_
    refine X_gI G dX12_lists_2 fX12_339 hp1.1 rfl ?_
    refine V_icmp_ne (tgt := 14) dX12_lists_5 (by decide) (fun c => ?_) (fun c => ?_)
    · replace hF := (if_neg c).symm.trans hF
      refine V_iload_n dX12_lists_14 rfl ?_
      refine V_istore dX12_lists_15 (by decide) ?_
      exact V_lv' (w_X12_lists_L17 ht hp1 G (by omega) hkR f _ _ hF) (v_all_c rfl (v_all_c rfl (v_all_c rfl (v_all_c rfl v_all_n))))
    · replace hF := (if_pos c).symm.trans hF
      refine V_aload_n dX12_lists_8 rfl ?_
      refine V_aload_n dX12_lists_9 rfl ?_
      obtain ⟨y1, hc, hF⟩ := bd hF
      refine V_callV G dX12_lists_10 kX12_385 (wd_at ht.1) ⟨by decide, rfl⟩ (s_X12_listsOf ht hp1 G hc (by omega)) rfl (Nat.le_of_ble_eq_true rfl) (fun _ _ _ q => q.elim) ?_
      rintro _ _ ⟨rfl, rfl⟩
      obtain ⟨hz, hF⟩ := gv_out hF
      cases hF
      exact V_ireturn dX12_lists_13 rfl (nb_n hz) ⟨rfl, rfl⟩

