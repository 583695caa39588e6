set_option maxRecDepth 100000 in
set_option maxHeartbeats 4000000 in
theorem s_X6_readOwn {l : Launch} {s0 : State} {D : va_G} {a0 : Array Value} {sh : List Sh} {f : Nat} {S : St} {t : Nat} (ht : isX6 sh t) {r : Int32 × St} (G : GC l s0 D a0) (hF : F_X6_readOwn sh f S t = some r) {d : Nat} (hd : 5 ≤ d) : Sp l s0 D d 0 0 mX6_readOwn (fun v h => v = some (.int r.1) ∧ h = wd s0.heap.size sh r.2) v_noX [.ref (s0.heap.size + t)] (wd s0.heap.size sh S) := by
  obtain ⟨d, rfl⟩ : ∃ e, d = e + 1 := ⟨d - 1, by omega⟩
  refine Sp.of (by decide +kernel) rfl (Nat.le_of_ble_eq_true rfl) ?_
  unfold F_X6_readOwn at hF
  refine V_aload_n dX6_readOwn_0 rfl ?_
  obtain ⟨y1, hc, hF⟩ := bd hF
  refine V_callV G dX6_readOwn_1 kX6_45 (wd_at ht.1) ⟨by decide, rfl⟩ (s_X6_advance ht G hc (by omega)) rfl (Nat.le_of_ble_eq_true rfl) (fun _ _ _ q => q.elim) ?_
  rintro _ _ ⟨rfl, rfl⟩
  refine V_aload_n dX6_readOwn_4 rfl ?_
  obtain ⟨y2, hc, hF⟩ := bd hF
  refine V_callV G dX6_readOwn_5 kX6_103 (wd_at ht.1) ⟨by decide, rfl⟩ (s_X6_readNewName ht G hc (by omega)) rfl (Nat.le_of_ble_eq_true rfl) (fun _ _ _ q => q.elim) ?_
  rintro _ _ ⟨rfl, rfl⟩
  refine V_if_eq (tgt := 18) dX6_readOwn_8 (by decide) (fun c => ?_) (fun c => ?_)
  · replace hF := (if_pos c).symm.trans hF
    refine V_iconst (v := 0) dX6_readOwn_18 (by decide) ?_
    cases hF
    exact V_ireturn dX6_readOwn_19 rfl (by decide) ⟨rfl, rfl⟩
  · replace hF := (if_neg c).symm.trans hF
    refine V_aload_n dX6_readOwn_11 rfl ?_
    obtain ⟨y3, hc, hF⟩ := bd hF
    refine V_callV G dX6_readOwn_12 kX6_106 (wd_at ht.1) ⟨by decide, rfl⟩ (s_X6_readHeavy ht G hc (by omega)) rfl (Nat.le_of_ble_eq_true rfl) (fun _ _ _ q => q.elim) ?_
    rintro _ _ ⟨rfl, rfl⟩
    refine V_if_ne (tgt := 20) dX6_readOwn_15 (by decide) (fun c => ?_) (fun c => ?_)
    · replace hF := (if_neg c).symm.trans hF
      refine V_aload_n dX6_readOwn_20 rfl ?_
      obtain ⟨b4, hrb4, hF⟩ := bd hF
      obtain ⟨hb4, hF⟩ := gv_in hF
      replace hb4 := ckX0_ok hb4
      refine X_gR G dX6_readOwn_21 fX6_18 ht.1 rfl hrb4 ?_
      refine V_aload_n dX6_readOwn_24 rfl ?_
      refine X_gI G dX6_readOwn_25 fX6_83 ht.1 rfl ?_
      obtain ⟨y5, hc, hF⟩ := bd hF
      refine V_callV G dX6_readOwn_28 kX6_109 (wd_at hb4.1) ⟨by decide, rfl⟩ (s_X0_setOwn hb4 G hc (by omega)) rfl (Nat.le_of_ble_eq_true rfl) (fun _ _ _ q => q.elim) ?_
      rintro _ _ ⟨rfl, rfl⟩
      refine V_aload_n dX6_readOwn_31 rfl ?_
      obtain ⟨y6, hc, hF⟩ := bd hF
      refine V_callV G dX6_readOwn_32 kX6_45 (wd_at ht.1) ⟨by decide, rfl⟩ (s_X6_advance ht G hc (by omega)) rfl (Nat.le_of_ble_eq_true rfl) (fun _ _ _ q => q.elim) ?_
      rintro _ _ ⟨rfl, rfl⟩
      refine V_iconst (v := 1) dX6_readOwn_35 (by decide) ?_
      cases hF
      exact V_ireturn dX6_readOwn_36 rfl (by decide) ⟨rfl, rfl⟩
    · replace hF := (if_pos c).symm.trans hF
      refine V_iconst (v := 0) dX6_readOwn_18 (by decide) ?_
      cases hF
      exact V_ireturn dX6_readOwn_19 rfl (by decide) ⟨rfl, rfl⟩
set_option maxRecDepth 100000 in
set_option maxHeartbeats 4000000 in
theorem w_X6_readInt_L29 {l : Launch} {s0 : State} {D : va_G} {a0 : Array Value} {sh : List Sh} {f : Nat} {t : Nat} {p1 : Int32} {p2 : Int32} (ht : isX6 sh t) {r : Int32 × St} {d : Nat} (G : GC l s0 D a0) (hd : 4 ≤ d + 1) : ∀ (S : St) (l3 : Int32) (l4 : Int32), F_X6_readInt_L29 sh f t p1 p2 S l3 l4 = some r → V l s0 D (d + 1) 0 0 mX6_readInt (fun v h => v = some (.int r.1) ∧ h = wd s0.heap.size sh r.2) v_noX 29 [(0, .ref (s0.heap.size + t)), (1, .int p1), (2, .int p2), (3, .int l3), (4, .int l4)] [] (wd s0.heap.size sh S) := by
  intro S l3 l4 hF
  unfold F_X6_readInt_L29 at hF
  refine V_aload_n dX6_readInt_29 rfl ?_
  refine X_gI G dX6_readInt_30 fX6_52 ht.1 rfl ?_
  refine V_iconst (v := 2) dX6_readInt_33 (by decide) ?_
  refine V_icmp_eq (tgt := 47) dX6_readInt_34 (by decide) (fun c => ?_) (fun c => ?_)
  · replace hF := (if_pos c).symm.trans hF
    refine V_aload_n dX6_readInt_47 rfl ?_
    refine X_gI G dX6_readInt_48 fX6_83 ht.1 rfl ?_
    refine V_iload_n dX6_readInt_51 rfl ?_
    refine V_icmp_gt (tgt := 66) dX6_readInt_52 (by decide) (fun c => ?_) (fun c => ?_)
    · replace hF := (if_pos c).symm.trans hF
      refine V_aload_n dX6_readInt_66 rfl ?_
      refine V_iconst (v := 4) dX6_readInt_67 (by decide) ?_
      refine V_iload_n dX6_readInt_68 rfl ?_
      obtain ⟨y1, hc, hF⟩ := bd hF
      refine V_callV G dX6_readInt_69 kX6_58 (wd_at ht.1) ⟨by decide, rfl⟩ (s_X6_fail ht G hc (by omega)) rfl (Nat.le_of_ble_eq_true rfl) (fun _ _ _ q => q.elim) ?_
      rintro _ _ ⟨rfl, rfl⟩
      obtain ⟨hz, hF⟩ := gv_out hF
      cases hF
      exact V_ireturn dX6_readInt_72 rfl (nb_n hz) ⟨rfl, rfl⟩
    · replace hF := (if_neg c).symm.trans hF
      refine V_aload_n dX6_readInt_55 rfl ?_
      refine X_gI G dX6_readInt_56 fX6_83 ht.1 rfl ?_
      refine V_if_ne (tgt := 73) dX6_readInt_59 (by decide) (fun c => ?_) (fun c => ?_)
      · replace hF := (if_neg c).symm.trans hF
        refine V_aload_n dX6_readInt_73 rfl ?_
        refine V_iload dX6_readInt_74 rfl ?_
        refine V_if_eq (tgt := 87) dX6_readInt_76 (by decide) (fun c => ?_) (fun c => ?_)
        · replace hF := (if_pos c).symm.trans hF
          refine V_aload_n dX6_readInt_87 rfl ?_
          refine X_gI G dX6_readInt_88 fX6_83 ht.1 rfl ?_
          refine X_pI G dX6_readInt_91 gX6_83 ht.1 rfl rfl rfl ?_
          obtain ⟨S2, qS2, hF⟩ := bnd_g hF
          refine V_eqS qS2 ?_
          refine V_iconst (v := 1) dX6_readInt_94 (by decide) ?_
          cases hF
          exact V_ireturn dX6_readInt_95 rfl (by decide) ⟨rfl, rfl⟩
        · replace hF := (if_neg c).symm.trans hF
          refine V_aload_n dX6_readInt_79 rfl ?_
          refine X_gI G dX6_readInt_80 fX6_83 ht.1 rfl ?_
          refine V_ineg dX6_readInt_83 ?_
          refine V_goto (tgt := 91) dX6_readInt_84 (by decide) ?_
          refine X_pI G dX6_readInt_91 gX6_83 ht.1 rfl rfl rfl ?_
          obtain ⟨S3, qS3, hF⟩ := bnd_g hF
          refine V_eqS qS3 ?_
          refine V_iconst (v := 1) dX6_readInt_94 (by decide) ?_
          cases hF
          exact V_ireturn dX6_readInt_95 rfl (by decide) ⟨rfl, rfl⟩
      · replace hF := (if_pos c).symm.trans hF
        refine V_iload_n dX6_readInt_62 rfl ?_
        refine V_if_ne (tgt := 73) dX6_readInt_63 (by decide) (fun c => ?_) (fun c => ?_)
        · replace hF := (if_neg c).symm.trans hF
          refine V_aload_n dX6_readInt_73 rfl ?_
          refine V_iload dX6_readInt_74 rfl ?_
          refine V_if_eq (tgt := 87) dX6_readInt_76 (by decide) (fun c => ?_) (fun c => ?_)
          · replace hF := (if_pos c).symm.trans hF
            refine V_aload_n dX6_readInt_87 rfl ?_
            refine X_gI G dX6_readInt_88 fX6_83 ht.1 rfl ?_
            refine X_pI G dX6_readInt_91 gX6_83 ht.1 rfl rfl rfl ?_
            obtain ⟨S4, qS4, hF⟩ := bnd_g hF
            refine V_eqS qS4 ?_
            refine V_iconst (v := 1) dX6_readInt_94 (by decide) ?_
            cases hF
            exact V_ireturn dX6_readInt_95 rfl (by decide) ⟨rfl, rfl⟩
          · replace hF := (if_neg c).symm.trans hF
            refine V_aload_n dX6_readInt_79 rfl ?_
            refine X_gI G dX6_readInt_80 fX6_83 ht.1 rfl ?_
            refine V_ineg dX6_readInt_83 ?_
            refine V_goto (tgt := 91) dX6_readInt_84 (by decide) ?_
            refine X_pI G dX6_readInt_91 gX6_83 ht.1 rfl rfl rfl ?_
            obtain ⟨S5, qS5, hF⟩ := bnd_g hF
            refine V_eqS qS5 ?_
            refine V_iconst (v := 1) dX6_readInt_94 (by decide) ?_
            cases hF
            exact V_ireturn dX6_readInt_95 rfl (by decide) ⟨rfl, rfl⟩
        · replace hF := (if_pos c).symm.trans hF
          refine V_aload_n dX6_readInt_66 rfl ?_
          refine V_iconst (v := 4) dX6_readInt_67 (by decide) ?_
          refine V_iload_n dX6_readInt_68 rfl ?_
          obtain ⟨y6, hc, hF⟩ := bd hF
          refine V_callV G dX6_readInt_69 kX6_58 (wd_at ht.1) ⟨by decide, rfl⟩ (s_X6_fail ht G hc (by omega)) rfl (Nat.le_of_ble_eq_true rfl) (fun _ _ _ q => q.elim) ?_
          rintro _ _ ⟨rfl, rfl⟩
          obtain ⟨hz, hF⟩ := gv_out hF
          cases hF
          exact V_ireturn dX6_readInt_72 rfl (nb_n hz) ⟨rfl, rfl⟩
  · replace hF := (if_neg c).symm.trans hF
    refine V_aload_n dX6_readInt_37 rfl ?_
    refine V_iconst (v := 1) dX6_readInt_38 (by decide) ?_
    refine V_aload_n dX6_readInt_39 rfl ?_
    refine X_gI G dX6_readInt_40 fX6_55 ht.1 rfl ?_
    obtain ⟨y7, hc, hF⟩ := bd hF
    refine V_callV G dX6_readInt_43 kX6_58 (wd_at ht.1) ⟨by decide, rfl⟩ (s_X6_fail ht G hc (by omega)) rfl (Nat.le_of_ble_eq_true rfl) (fun _ _ _ q => q.elim) ?_
    rintro _ _ ⟨rfl, rfl⟩
    obtain ⟨hz, hF⟩ := gv_out hF
    cases hF
    exact V_ireturn dX6_readInt_46 rfl (nb_n hz) ⟨rfl, rfl⟩
set_option maxRecDepth 100000 in
set_option maxHeartbeats 4000000 in
theorem w_X6_readInt_L18 {l : Launch} {s0 : State} {D : va_G} {a0 : Array Value} {sh : List Sh} {f : Nat} {t : Nat} {p1 : Int32} {p2 : Int32} (ht : isX6 sh t) {r : Int32 × St} {d : Nat} (G : GC l s0 D a0) (hd : 4 ≤ d + 1) : ∀ (S : St) (l3 : Int32) (v0 : Int32), F_X6_readInt_L18 sh f t p1 p2 S l3 v0 = some r → V l s0 D (d + 1) 0 0 mX6_readInt (fun v h => v = some (.int r.1) ∧ h = wd s0.heap.size sh r.2) v_noX 18 [(0, .ref (s0.heap.size + t)), (1, .int p1), (2, .int p2), (3, .int l3)] [.int v0] (wd s0.heap.size sh S) := by
  intro S l3 v0 hF
  unfold F_X6_readInt_L18 at hF
  refine V_istore dX6_readInt_18 (by decide) ?_
  refine V_iload dX6_readInt_20 rfl ?_
  refine V_if_eq (tgt := 29) dX6_readInt_22 (by decide) (fun c => ?_) (fun c => ?_)
  · replace hF := (if_pos c).symm.trans hF
    exact V_lv' (w_X6_readInt_L29 ht G hd _ _ _ hF) (v_all_c rfl (v_all_c rfl (v_all_c rfl (v_all_c rfl (v_all_c rfl v_all_n)))))
  · replace hF := (if_neg c).symm.trans hF
    refine V_aload_n dX6_readInt_25 rfl ?_
    obtain ⟨y1, hc, hF⟩ := bd hF
    refine V_callV G dX6_readInt_26 kX6_45 (wd_at ht.1) ⟨by decide, rfl⟩ (s_X6_advance ht G hc (by omega)) rfl (Nat.le_of_ble_eq_true rfl) (fun _ _ _ q => q.elim) ?_
    rintro _ _ ⟨rfl, rfl⟩
    exact V_lv' (w_X6_readInt_L29 ht G hd _ _ _ hF) (v_all_c rfl (v_all_c rfl (v_all_c rfl (v_all_c rfl (v_all_c rfl v_all_n)))))
set_option maxRecDepth 100000 in
set_option maxHeartbeats 4000000 in
theorem s_X6_readInt {l : Launch} {s0 : State} {D : va_G} {a0 : Array Value} {sh : List Sh} {f : Nat} {S : St} {t : Nat} {p1 : Int32} {p2 : Int32} (ht : isX6 sh t) {r : Int32 × St} (G : GC l s0 D a0) (hF : F_X6_readInt sh f S t p1 p2 = some r) {d : Nat} (hd : 4 ≤ d) : Sp l s0 D d 0 0 mX6_readInt (fun v h => v = some (.int r.1) ∧ h = wd s0.heap.size sh r.2) v_noX [.ref (s0.heap.size + t), .int p1, .int p2] (wd s0.heap.size sh S) := by
  obtain ⟨d, rfl⟩ : ∃ e, d = e + 1 := ⟨d - 1, by omega⟩
  refine Sp.of (by decide +kernel) rfl (Nat.le_of_ble_eq_true rfl) ?_
  unfold F_X6_readInt at hF
  refine V_aload_n dX6_readInt_0 rfl ?_
  refine X_gI G dX6_readInt_1 fX6_55 ht.1 rfl ?_
  obtain ⟨x1, qx1, hF⟩ := bnd_g hF
  refine B_istore_n qx1 dX6_readInt_4 (by decide) ?_
  refine V_aload_n dX6_readInt_5 rfl ?_
  refine X_gI G dX6_readInt_6 fX6_52 ht.1 rfl ?_
  refine V_iconst (v := 4) dX6_readInt_9 (by decide) ?_
  refine V_icmp_ne (tgt := 17) dX6_readInt_10 (by decide) (fun c => ?_) (fun c => ?_)
  · replace hF := (if_neg c).symm.trans hF
    refine V_iconst (v := 0) dX6_readInt_17 (by decide) ?_
    exact V_lv' (w_X6_readInt_L18 ht G hd _ _ _ hF) (v_all_c rfl (v_all_c rfl (v_all_c rfl (v_all_c rfl v_all_n))))
  · replace hF := (if_pos c).symm.trans hF
    refine V_iconst (v := 1) dX6_readInt_13 (by decide) ?_
    refine V_goto (tgt := 18) dX6_readInt_14 (by decide) ?_
    exact V_lv' (w_X6_readInt_L18 ht G hd _ _ _ hF) (v_all_c rfl (v_all_c rfl (v_all_c rfl (v_all_c rfl v_all_n))))
set_option maxRecDepth 100000 in
set_option maxHeartbeats 4000000 in
theorem s_X6_readTwo {l : Launch} {s0 : State} {D : va_G} {a0 : Array Value} {sh : List Sh} {f : Nat} {S : St} {t : Nat} {p1 : Int32} (ht : isX6 sh t) {r : Int32 × St} (G : GC l s0 D a0) (hF : F_X6_readTwo sh f S t p1 = some r) {d : Nat} (hd : 5 ≤ d) : Sp l s0 D d 0 0 mX6_readTwo (fun v h => v = some (.int r.1) ∧ h = wd s0.heap.size sh r.2) v_noX [.ref (s0.heap.size + t), .int p1] (wd s0.heap.size sh S) := by
  obtain ⟨d, rfl⟩ : ∃ e, d = e + 1 := ⟨d - 1, by omega⟩
  refine Sp.of (by decide +kernel) rfl (Nat.le_of_ble_eq_true rfl) ?_
  unfold F_X6_readTwo at hF
  refine V_aload_n dX6_readTwo_0 rfl ?_
  obtain ⟨y1, hc, hF⟩ := bd hF
  refine V_callV G dX6_readTwo_1 kX6_45 (wd_at ht.1) ⟨by decide, rfl⟩ (s_X6_advance ht G hc (by omega)) rfl (Nat.le_of_ble_eq_true rfl) (fun _ _ _ q => q.elim) ?_
  rintro _ _ ⟨rfl, rfl⟩
  refine V_aload_n dX6_readTwo_4 rfl ?_
  obtain ⟨y2, hc, hF⟩ := bd hF
  refine V_callV G dX6_readTwo_5 kX6_103 (wd_at ht.1) ⟨by decide, rfl⟩ (s_X6_readNewName ht G hc (by omega)) rfl (Nat.le_of_ble_eq_true rfl) (fun _ _ _ q => q.elim) ?_
  rintro _ _ ⟨rfl, rfl⟩
  refine V_if_eq (tgt := 25) dX6_readTwo_8 (by decide) (fun c => ?_) (fun c => ?_)
  · replace hF := (if_pos c).symm.trans hF
    refine V_iconst (v := 0) dX6_readTwo_25 (by decide) ?_
    cases hF
    exact V_ireturn dX6_readTwo_26 rfl (by decide) ⟨rfl, rfl⟩
  · replace hF := (if_neg c).symm.trans hF
    refine V_aload_n dX6_readTwo_11 rfl ?_
    obtain ⟨y3, hc, hF⟩ := bd hF
    refine V_callV G dX6_readTwo_12 kX6_103 (wd_at ht.1) ⟨by decide, rfl⟩ (s_X6_readNewName ht G hc (by omega)) rfl (Nat.le_of_ble_eq_true rfl) (fun _ _ _ q => q.elim) ?_
    rintro _ _ ⟨rfl, rfl⟩
    refine V_if_eq (tgt := 25) dX6_readTwo_15 (by decide) (fun c => ?_) (fun c => ?_)
    · replace hF := (if_pos c).symm.trans hF
      refine V_iconst (v := 0) dX6_readTwo_25 (by decide) ?_
      cases hF
      exact V_ireturn dX6_readTwo_26 rfl (by decide) ⟨rfl, rfl⟩
    · replace hF := (if_neg c).symm.trans hF
      refine V_aload_n dX6_readTwo_18 rfl ?_
      obtain ⟨y4, hc, hF⟩ := bd hF
      refine V_callV G dX6_readTwo_19 kX6_106 (wd_at ht.1) ⟨by decide, rfl⟩ (s_X6_readHeavy ht G hc (by omega)) rfl (Nat.le_of_ble_eq_true rfl) (fun _ _ _ q => q.elim) ?_
      rintro _ _ ⟨rfl, rfl⟩
      refine V_if_ne (tgt := 27) dX6_readTwo_22 (by decide) (fun c => ?_) (fun c => ?_)
      · replace hF := (if_neg c).symm.trans hF
        refine V_aload_n dX6_readTwo_27 rfl ?_
        refine X_gI G dX6_readTwo_28 fX6_83 ht.1 rfl ?_
        obtain ⟨x5, qx5, hF⟩ := bnd_g hF
        refine B_istore_n qx5 dX6_readTwo_31 (by decide) ?_
        refine V_aload_n dX6_readTwo_32 rfl ?_
        obtain ⟨y6, hc, hF⟩ := bd hF
        refine V_callV G dX6_readTwo_33 kX6_45 (wd_at ht.1) ⟨by decide, rfl⟩ (s_X6_advance ht G hc (by omega)) rfl (Nat.le_of_ble_eq_true rfl) (fun _ _ _ q => q.elim) ?_
        rintro _ _ ⟨rfl, rfl⟩
        refine V_aload_n dX6_readTwo_36 rfl ?_
        refine V_bipush (v := 9) dX6_readTwo_37 (by decide) ?_
        refine V_iconst (v := 1) dX6_readTwo_39 (by decide) ?_
        obtain ⟨y7, hc, hF⟩ := bd hF
        refine V_callV G dX6_readTwo_40 kX6_112 (wd_at ht.1) ⟨by decide, rfl⟩ (s_X6_readInt ht G hc (by omega)) rfl (Nat.le_of_ble_eq_true rfl) (fun _ _ _ q => q.elim) ?_
        rintro _ _ ⟨rfl, rfl⟩
        refine V_if_ne (tgt := 48) dX6_readTwo_43 (by decide) (fun c => ?_) (fun c => ?_)
        · replace hF := (if_neg c).symm.trans hF
          refine V_aload_n dX6_readTwo_48 rfl ?_
          obtain ⟨b8, hrb8, hF⟩ := bd hF
          obtain ⟨hb8, hF⟩ := gv_in hF
          replace hb8 := ckX0_ok hb8
          refine X_gR G dX6_readTwo_49 fX6_18 ht.1 rfl hrb8 ?_
          refine V_iload_n dX6_readTwo_52 rfl ?_
          refine V_iload_n dX6_readTwo_53 rfl ?_
          refine V_aload_n dX6_readTwo_54 rfl ?_
          refine X_gI G dX6_readTwo_55 fX6_83 ht.1 rfl ?_
          obtain ⟨y9, hc, hF⟩ := bd hF
          refine V_callV G dX6_readTwo_58 kX6_116 (wd_at hb8.1) ⟨by decide, rfl⟩ (s_X0_setTwo hb8 G hc (by omega)) rfl (Nat.le_of_ble_eq_true rfl) (fun _ _ _ q => q.elim) ?_
          rintro _ _ ⟨rfl, rfl⟩
          refine V_aload_n dX6_readTwo_61 rfl ?_
          obtain ⟨y10, hc, hF⟩ := bd hF
          refine V_callV G dX6_readTwo_62 kX6_45 (wd_at ht.1) ⟨by decide, rfl⟩ (s_X6_advance ht G hc (by omega)) rfl (Nat.le_of_ble_eq_true rfl) (fun _ _ _ q => q.elim) ?_
          rintro _ _ ⟨rfl, rfl⟩
          refine V_iconst (v := 1) dX6_readTwo_65 (by decide) ?_
          cases hF
          exact V_ireturn dX6_readTwo_66 rfl (by decide) ⟨rfl, rfl⟩
        · replace hF := (if_pos c).symm.trans hF
          refine V_iconst (v := 0) dX6_readTwo_46 (by decide) ?_
          cases hF
          exact V_ireturn dX6_readTwo_47 rfl (by decide) ⟨rfl, rfl⟩
      · replace hF := (if_pos c).symm.trans hF
        refine V_iconst (v := 0) dX6_readTwo_25 (by decide) ?_
        cases hF
        exact V_ireturn dX6_readTwo_26 rfl (by decide) ⟨rfl, rfl⟩
set_option maxRecDepth 100000 in
set_option maxHeartbeats 4000000 in
theorem w_X6_readLegs_L33 {l : Launch} {s0 : State} {D : va_G} {a0 : Array Value} {sh : List Sh} {f : Nat} {t : Nat} (ht : isX6 sh t) {r : Int32 × St} {d : Nat} (G : GC l s0 D a0) (hd : 4 ≤ d + 1) {k2 : St → Int32 → Option (Int32 × St)} (hk2 : ∀ (S : St) (l1 : Int32), k2 S l1 = some r → V l s0 D (d + 1) 0 0 mX6_readLegs (fun v h => v = some (.int r.1) ∧ h = wd s0.heap.size sh r.2) v_noX 2 [(0, .ref (s0.heap.size + t)), (1, .int l1)] [] (wd s0.heap.size sh S)) : ∀ (S : St) (l1 : Int32), F_X6_readLegs_L33 sh f t k2 S l1 = some r → V l s0 D (d + 1) 0 0 mX6_readLegs (fun v h => v = some (.int r.1) ∧ h = wd s0.heap.size sh r.2) v_noX 33 [(0, .ref (s0.heap.size + t)), (1, .int l1)] [] (wd s0.heap.size sh S) := by
  intro S l1 hF
  unfold F_X6_readLegs_L33 at hF
  refine V_aload_n dX6_readLegs_33 rfl ?_
  obtain ⟨y1, hc, hF⟩ := bd hF
  refine V_callV G dX6_readLegs_34 kX6_120 (wd_at ht.1) ⟨by decide, rfl⟩ (s_X6_isName ht G hc (by omega)) rfl (Nat.le_of_ble_eq_true rfl) (fun _ _ _ q => q.elim) ?_
  rintro _ _ ⟨rfl, rfl⟩
  refine V_if_ne (tgt := 50) dX6_readLegs_37 (by decide) (fun c => ?_) (fun c => ?_)
  · replace hF := (if_neg c).symm.trans hF
    refine V_aload_n dX6_readLegs_50 rfl ?_
    obtain ⟨b2, hrb2, hF⟩ := bd hF
    obtain ⟨hb2, hF⟩ := gv_in hF
    replace hb2 := ckX0_ok hb2
    refine X_gR G dX6_readLegs_51 fX6_18 ht.1 rfl hrb2 ?_
    refine V_aload_n dX6_readLegs_54 rfl ?_
    refine X_gJ G dX6_readLegs_55 fX6_79 ht.1 rfl ?_
    obtain ⟨y3, hc, hF⟩ := bd hF
    refine V_callV G dX6_readLegs_58 kX6_123 (wd_at hb2.1) ⟨by decide, rfl⟩ (s_X0_findKind hb2 G hc (by omega)) rfl (Nat.le_of_ble_eq_true rfl) (fun _ _ _ q => q.elim) ?_
    rintro _ _ ⟨rfl, rfl⟩
    refine V_istore_n dX6_readLegs_61 (by decide) ?_
    refine V_iload_n dX6_readLegs_62 rfl ?_
    refine V_iconst (v := -1) dX6_readLegs_63 (by decide) ?_
    refine V_icmp_ne (tgt := 77) dX6_readLegs_64 (by decide) (fun c => ?_) (fun c => ?_)
    · replace hF := (if_neg c).symm.trans hF
      refine V_aload_n dX6_readLegs_77 rfl ?_
      obtain ⟨b4, hrb4, hF⟩ := bd hF
      obtain ⟨hb4, hF⟩ := gv_in hF
      replace hb4 := ckX0_ok hb4
      refine X_gR G dX6_readLegs_78 fX6_18 ht.1 rfl hrb4 ?_
      refine V_iload_n dX6_readLegs_81 rfl ?_
      obtain ⟨y5, hc, hF⟩ := bd hF
      refine V_callV G dX6_readLegs_82 kX6_144 (wd_at hb4.1) ⟨by decide, rfl⟩ (s_X0_addLeg hb4 G hc (by omega)) rfl (Nat.le_of_ble_eq_true rfl) (fun _ _ _ q => q.elim) ?_
      rintro _ _ ⟨rfl, rfl⟩
      refine V_if_ne (tgt := 99) dX6_readLegs_85 (by decide) (fun c => ?_) (fun c => ?_)
      · replace hF := (if_neg c).symm.trans hF
        refine V_aload_n dX6_readLegs_99 rfl ?_
        obtain ⟨y6, hc, hF⟩ := bd hF
        refine V_callV G dX6_readLegs_100 kX6_45 (wd_at ht.1) ⟨by decide, rfl⟩ (s_X6_advance ht G hc (by omega)) rfl (Nat.le_of_ble_eq_true rfl) (fun _ _ _ q => q.elim) ?_
        rintro _ _ ⟨rfl, rfl⟩
        obtain ⟨x7, qx7, hF⟩ := bnd_g hF
        refine B_iinc (v := 1) qx7 dX6_readLegs_103 rfl (by decide) (by decide) ?_
        refine V_goto (tgt := 2) dX6_readLegs_106 (by decide) ?_
        exact V_lv' (hk2 _ _ hF) (v_all_c rfl (v_all_c rfl v_all_n))
      · replace hF := (if_pos c).symm.trans hF
        refine V_aload_n dX6_readLegs_88 rfl ?_
        refine V_bipush (v := 6) dX6_readLegs_89 (by decide) ?_
        refine V_aload_n dX6_readLegs_91 rfl ?_
        refine X_gI G dX6_readLegs_92 fX6_55 ht.1 rfl ?_
        obtain ⟨y8, hc, hF⟩ := bd hF
        refine V_callV G dX6_readLegs_95 kX6_58 (wd_at ht.1) ⟨by decide, rfl⟩ (s_X6_fail ht G hc (by omega)) rfl (Nat.le_of_ble_eq_true rfl) (fun _ _ _ q => q.elim) ?_
        rintro _ _ ⟨rfl, rfl⟩
        obtain ⟨hz, hF⟩ := gv_out hF
        cases hF
        exact V_ireturn dX6_readLegs_98 rfl (nb_n hz) ⟨rfl, rfl⟩
    · replace hF := (if_pos c).symm.trans hF
      refine V_aload_n dX6_readLegs_67 rfl ?_
      refine V_iconst (v := 2) dX6_readLegs_68 (by decide) ?_
      refine V_aload_n dX6_readLegs_69 rfl ?_
      refine X_gI G dX6_readLegs_70 fX6_55 ht.1 rfl ?_
      obtain ⟨y9, hc, hF⟩ := bd hF
      refine V_callV G dX6_readLegs_73 kX6_58 (wd_at ht.1) ⟨by decide, rfl⟩ (s_X6_fail ht G hc (by omega)) rfl (Nat.le_of_ble_eq_true rfl) (fun _ _ _ q => q.elim) ?_
      rintro _ _ ⟨rfl, rfl⟩
      obtain ⟨hz, hF⟩ := gv_out hF
      cases hF
      exact V_ireturn dX6_readLegs_76 rfl (nb_n hz) ⟨rfl, rfl⟩
  · replace hF := (if_pos c).symm.trans hF
    refine V_aload_n dX6_readLegs_40 rfl ?_
    refine V_iconst (v := 1) dX6_readLegs_41 (by decide) ?_
    refine V_aload_n dX6_readLegs_42 rfl ?_
    refine X_gI G dX6_readLegs_43 fX6_55 ht.1 rfl ?_
    obtain ⟨y10, hc, hF⟩ := bd hF
    refine V_callV G dX6_readLegs_46 kX6_58 (wd_at ht.1) ⟨by decide, rfl⟩ (s_X6_fail ht G hc (by omega)) rfl (Nat.le_of_ble_eq_true rfl) (fun _ _ _ q => q.elim) ?_
    rintro _ _ ⟨rfl, rfl⟩
    obtain ⟨hz, hF⟩ := gv_out hF
    cases hF
    exact V_ireturn dX6_readLegs_49 rfl (nb_n hz) ⟨rfl, rfl⟩
set_option maxRecDepth 100000 in
set_option maxHeartbeats 4000000 in
theorem w_X6_readLegs_L2 {l : Launch} {s0 : State} {D : va_G} {a0 : Array Value} {sh : List Sh} {f : Nat} {t : Nat} (ht : isX6 sh t) {r : Int32 × St} {d : Nat} (G : GC l s0 D a0) (hd : 4 ≤ d + 1) : ∀ (n : Nat) (S : St) (l1 : Int32), F_X6_readLegs_L2 sh f t n S l1 = some r → V l s0 D (d + 1) 0 0 mX6_readLegs (fun v h => v = some (.int r.1) ∧ h = wd s0.heap.size sh r.2) v_noX 2 [(0, .ref (s0.heap.size + t)), (1, .int l1)] [] (wd s0.heap.size sh S) := by
  intro n
  induction n with
  | zero => intro S l1 hF; cases hF
  | succ n ih =>
    intro S l1 hF
    unfold F_X6_readLegs_L2 at hF
    refine V_iload_n dX6_readLegs_2 rfl ?_
    refine V_iconst (v := 4) dX6_readLegs_3 (by decide) ?_
    refine V_icmp_gt (tgt := 109) dX6_readLegs_4 (by decide) (fun c => ?_) (fun c => ?_)
    · replace hF := (if_pos c).symm.trans hF
      refine V_aload_n dX6_readLegs_109 rfl ?_
      refine V_bipush (v := 6) dX6_readLegs_110 (by decide) ?_
      refine V_aload_n dX6_readLegs_112 rfl ?_
      refine X_gI G dX6_readLegs_113 fX6_55 ht.1 rfl ?_
      obtain ⟨y1, hc, hF⟩ := bd hF
      refine V_callV G dX6_readLegs_116 kX6_58 (wd_at ht.1) ⟨by decide, rfl⟩ (s_X6_fail ht G hc (by omega)) rfl (Nat.le_of_ble_eq_true rfl) (fun _ _ _ q => q.elim) ?_
      rintro _ _ ⟨rfl, rfl⟩
      obtain ⟨hz, hF⟩ := gv_out hF
      cases hF
      exact V_ireturn dX6_readLegs_119 rfl (nb_n hz) ⟨rfl, rfl⟩
    · replace hF := (if_neg c).symm.trans hF
      refine V_iload_n dX6_readLegs_7 rfl ?_
      refine V_iconst (v := 3) dX6_readLegs_8 (by decide) ?_
      refine V_icmp_lt (tgt := 33) dX6_readLegs_9 (by decide) (fun c => ?_) (fun c => ?_)
      · replace hF := (if_pos c).symm.trans hF
        exact V_lv' (w_X6_readLegs_L33 ht G hd ih _ _ hF) (v_all_c rfl (v_all_c rfl v_all_n))
      · replace hF := (if_neg c).symm.trans hF
        refine V_aload_n dX6_readLegs_12 rfl ?_
        refine X_gI G dX6_readLegs_13 fX6_52 ht.1 rfl ?_
        refine V_iconst (v := 1) dX6_readLegs_16 (by decide) ?_
        refine V_icmp_ne (tgt := 33) dX6_readLegs_17 (by decide) (fun c => ?_) (fun c => ?_)
        · replace hF := (if_neg c).symm.trans hF
          exact V_lv' (w_X6_readLegs_L33 ht G hd ih _ _ hF) (v_all_c rfl (v_all_c rfl v_all_n))
        · replace hF := (if_pos c).symm.trans hF
          refine V_aload_n dX6_readLegs_20 rfl ?_
          refine X_gJ G dX6_readLegs_21 fX6_79 ht.1 rfl ?_
          refine V_ldc2 dX6_readLegs_24 qX6_142 ?_
          refine V_lcmp dX6_readLegs_27 ?_
          refine V_if_ne (tgt := 33) dX6_readLegs_28 (by decide) (fun c => ?_) (fun c => ?_)
          · replace hF := (if_neg c).symm.trans hF
            exact V_lv' (w_X6_readLegs_L33 ht G hd ih _ _ hF) (v_all_c rfl (v_all_c rfl v_all_n))
          · replace hF := (if_pos c).symm.trans hF
            refine V_iconst (v := 1) dX6_readLegs_31 (by decide) ?_
            cases hF
            exact V_ireturn dX6_readLegs_32 rfl (by decide) ⟨rfl, rfl⟩
set_option maxRecDepth 100000 in
set_option maxHeartbeats 4000000 in
theorem s_X6_readLegs {l : Launch} {s0 : State} {D : va_G} {a0 : Array Value} {sh : List Sh} {f : Nat} {S : St} {t : Nat} (ht : isX6 sh t) {r : Int32 × St} (G : GC l s0 D a0) (hF : F_X6_readLegs sh f S t = some r) {d : Nat} (hd : 4 ≤ d) : Sp l s0 D d 0 0 mX6_readLegs (fun v h => v = some (.int r.1) ∧ h = wd s0.heap.size sh r.2) v_noX [.ref (s0.heap.size + t)] (wd s0.heap.size sh S) := by
  obtain ⟨d, rfl⟩ : ∃ e, d = e + 1 := ⟨d - 1, by omega⟩
  refine Sp.of (by decide +kernel) rfl (Nat.le_of_ble_eq_true rfl) ?_
  unfold F_X6_readLegs at hF
  refine V_iconst (v := 0) dX6_readLegs_0 (by decide) ?_
  refine V_istore_n dX6_readLegs_1 (by decide) ?_
  exact V_lv' (w_X6_readLegs_L2 ht G hd f _ _ hF) (v_all_c rfl (v_all_c rfl v_all_n))
set_option maxRecDepth 100000 in
set_option maxHeartbeats 4000000 in
theorem s_X6_readMeet {l : Launch} {s0 : State} {D : va_G} {a0 : Array Value} {sh : List Sh} {f : Nat} {S : St} {t : Nat} (ht : isX6 sh t) {r : Int32 × St} (G : GC l s0 D a0) (hF : F_X6_readMeet sh f S t = some r) {d : Nat} (hd : 5 ≤ d) : Sp l s0 D d 0 0 mX6_readMeet (fun v h => v = some (.int r.1) ∧ h = wd s0.heap.size sh r.2) v_noX [.ref (s0.heap.size + t)] (wd s0.heap.size sh S) := by
  obtain ⟨d, rfl⟩ : ∃ e, d = e + 1 := ⟨d - 1, by omega⟩
  refine Sp.of (by decide +kernel) rfl (Nat.le_of_ble_eq_true rfl) ?_
  unfold F_X6_readMeet at hF
  refine V_aload_n dX6_readMeet_0 rfl ?_
  refine X_gI G dX6_readMeet_1 fX6_55 ht.1 rfl ?_
  obtain ⟨x1, qx1, hF⟩ := bnd_g hF
  refine B_istore_n qx1 dX6_readMeet_4 (by decide) ?_
  refine V_aload_n dX6_readMeet_5 rfl ?_
  obtain ⟨b2, hrb2, hF⟩ := bd hF
  obtain ⟨hb2, hF⟩ := gv_in hF
  replace hb2 := ckX0_ok hb2
  refine X_gR G dX6_readMeet_6 fX6_18 ht.1 rfl hrb2 ?_
  obtain ⟨y3, hc, hF⟩ := bd hF
  refine V_callV G dX6_readMeet_9 kX6_131 (wd_at hb2.1) ⟨by decide, rfl⟩ (s_X0_openRule hb2 G hc (by omega)) rfl (Nat.le_of_ble_eq_true rfl) (fun _ _ _ q => q.elim) ?_
  rintro _ _ ⟨rfl, rfl⟩
  refine V_if_ne (tgt := 23) dX6_readMeet_12 (by decide) (fun c => ?_) (fun c => ?_)
  · replace hF := (if_neg c).symm.trans hF
    refine V_aload_n dX6_readMeet_23 rfl ?_
    obtain ⟨y4, hc, hF⟩ := bd hF
    refine V_callV G dX6_readMeet_24 kX6_45 (wd_at ht.1) ⟨by decide, rfl⟩ (s_X6_advance ht G hc (by omega)) rfl (Nat.le_of_ble_eq_true rfl) (fun _ _ _ q => q.elim) ?_
    rintro _ _ ⟨rfl, rfl⟩
    refine V_aload_n dX6_readMeet_27 rfl ?_
    obtain ⟨y5, hc, hF⟩ := bd hF
    refine V_callV G dX6_readMeet_28 kX6_134 (wd_at ht.1) ⟨by decide, rfl⟩ (s_X6_readLegs ht G hc (by omega)) rfl (Nat.le_of_ble_eq_true rfl) (fun _ _ _ q => q.elim) ?_
    rintro _ _ ⟨rfl, rfl⟩
    refine V_if_ne (tgt := 36) dX6_readMeet_31 (by decide) (fun c => ?_) (fun c => ?_)
    · replace hF := (if_neg c).symm.trans hF
      refine V_aload_n dX6_readMeet_36 rfl ?_
      obtain ⟨y6, hc, hF⟩ := bd hF
      refine V_callV G dX6_readMeet_37 kX6_45 (wd_at ht.1) ⟨by decide, rfl⟩ (s_X6_advance ht G hc (by omega)) rfl (Nat.le_of_ble_eq_true rfl) (fun _ _ _ q => q.elim) ?_
      rintro _ _ ⟨rfl, rfl⟩
      refine V_aload_n dX6_readMeet_40 rfl ?_
      refine V_bipush (v := 99) dX6_readMeet_41 (by decide) ?_
      refine V_iconst (v := 0) dX6_readMeet_43 (by decide) ?_
      obtain ⟨y7, hc, hF⟩ := bd hF
      refine V_callV G dX6_readMeet_44 kX6_112 (wd_at ht.1) ⟨by decide, rfl⟩ (s_X6_readInt ht G hc (by omega)) rfl (Nat.le_of_ble_eq_true rfl) (fun _ _ _ q => q.elim) ?_
      rintro _ _ ⟨rfl, rfl⟩
      refine V_if_ne (tgt := 52) dX6_readMeet_47 (by decide) (fun c => ?_) (fun c => ?_)
      · replace hF := (if_neg c).symm.trans hF
        refine V_aload_n dX6_readMeet_52 rfl ?_
        refine X_gI G dX6_readMeet_53 fX6_83 ht.1 rfl ?_
        obtain ⟨x8, qx8, hF⟩ := bnd_g hF
        refine B_istore_n qx8 dX6_readMeet_56 (by decide) ?_
        refine V_aload_n dX6_readMeet_57 rfl ?_
        obtain ⟨y9, hc, hF⟩ := bd hF
        refine V_callV G dX6_readMeet_58 kX6_45 (wd_at ht.1) ⟨by decide, rfl⟩ (s_X6_advance ht G hc (by omega)) rfl (Nat.le_of_ble_eq_true rfl) (fun _ _ _ q => q.elim) ?_
        rintro _ _ ⟨rfl, rfl⟩
        refine V_aload_n dX6_readMeet_61 rfl ?_
        refine X_gI G dX6_readMeet_62 fX6_52 ht.1 rfl ?_
        refine V_iconst (v := 1) dX6_readMeet_65 (by decide) ?_
        refine V_icmp_eq (tgt := 79) dX6_readMeet_66 (by decide) (fun c => ?_) (fun c => ?_)
        · replace hF := (if_pos c).symm.trans hF
          refine V_aload_n dX6_readMeet_79 rfl ?_
          refine X_gJ G dX6_readMeet_80 fX6_79 ht.1 rfl ?_
          refine V_lconst (v := 1) dX6_readMeet_83 (by decide) ?_
          refine V_lcmp dX6_readMeet_84 ?_
          refine V_if_lt (tgt := 99) dX6_readMeet_85 (by decide) (fun c => ?_) (fun c => ?_)
          · replace hF := (if_pos c).symm.trans hF
            refine V_aload_n dX6_readMeet_99 rfl ?_
            refine V_iconst (v := 4) dX6_readMeet_100 (by decide) ?_
            refine V_aload_n dX6_readMeet_101 rfl ?_
            refine X_gI G dX6_readMeet_102 fX6_55 ht.1 rfl ?_
            obtain ⟨y10, hc, hF⟩ := bd hF
            refine V_callV G dX6_readMeet_105 kX6_58 (wd_at ht.1) ⟨by decide, rfl⟩ (s_X6_fail ht G hc (by omega)) rfl (Nat.le_of_ble_eq_true rfl) (fun _ _ _ q => q.elim) ?_
            rintro _ _ ⟨rfl, rfl⟩
            obtain ⟨hz, hF⟩ := gv_out hF
            cases hF
            exact V_ireturn dX6_readMeet_108 rfl (nb_n hz) ⟨rfl, rfl⟩
          · replace hF := (if_neg c).symm.trans hF
            refine V_aload_n dX6_readMeet_88 rfl ?_
            refine X_gJ G dX6_readMeet_89 fX6_79 ht.1 rfl ?_
            refine V_ldc2 dX6_readMeet_92 qX6_137 ?_
            refine V_lcmp dX6_readMeet_95 ?_
            refine V_if_le (tgt := 109) dX6_readMeet_96 (by decide) (fun c => ?_) (fun c => ?_)
            · replace hF := (if_pos c).symm.trans hF
              refine V_aload_n dX6_readMeet_109 rfl ?_
              obtain ⟨b11, hrb11, hF⟩ := bd hF
              obtain ⟨hb11, hF⟩ := gv_in hF
              replace hb11 := ckX0_ok hb11
              refine X_gR G dX6_readMeet_110 fX6_18 ht.1 rfl hrb11 ?_
              refine V_iload_n dX6_readMeet_113 rfl ?_
              refine V_aload_n dX6_readMeet_114 rfl ?_
              refine X_gJ G dX6_readMeet_115 fX6_79 ht.1 rfl ?_
              refine V_l2i dX6_readMeet_118 ?_
              refine V_iconst (v := 1) dX6_readMeet_119 (by decide) ?_
              refine V_isub dX6_readMeet_120 ?_
              obtain ⟨y12, hc, hF⟩ := bd hF
              refine V_callV G dX6_readMeet_121 kX6_139 (wd_at hb11.1) ⟨by decide, rfl⟩ (s_X0_closeRule hb11 G hc (by omega)) rfl (Nat.le_of_ble_eq_true rfl) (fun _ _ _ q => q.elim) ?_
              rintro _ _ ⟨rfl, rfl⟩
              refine V_if_ne (tgt := 134) dX6_readMeet_124 (by decide) (fun c => ?_) (fun c => ?_)
              · replace hF := (if_neg c).symm.trans hF
                refine V_aload_n dX6_readMeet_134 rfl ?_
                obtain ⟨y13, hc, hF⟩ := bd hF
                refine V_callV G dX6_readMeet_135 kX6_45 (wd_at ht.1) ⟨by decide, rfl⟩ (s_X6_advance ht G hc (by omega)) rfl (Nat.le_of_ble_eq_true rfl) (fun _ _ _ q => q.elim) ?_
                rintro _ _ ⟨rfl, rfl⟩
                refine V_iconst (v := 1) dX6_readMeet_138 (by decide) ?_
                cases hF
                exact V_ireturn dX6_readMeet_139 rfl (by decide) ⟨rfl, rfl⟩
              · replace hF := (if_pos c).symm.trans hF
                refine V_aload_n dX6_readMeet_127 rfl ?_
                refine V_iconst (v := 5) dX6_readMeet_128 (by decide) ?_
                refine V_iload_n dX6_readMeet_129 rfl ?_
                obtain ⟨y14, hc, hF⟩ := bd hF
                refine V_callV G dX6_readMeet_130 kX6_58 (wd_at ht.1) ⟨by decide, rfl⟩ (s_X6_fail ht G hc (by omega)) rfl (Nat.le_of_ble_eq_true rfl) (fun _ _ _ q => q.elim) ?_
                rintro _ _ ⟨rfl, rfl⟩
                obtain ⟨hz, hF⟩ := gv_out hF
                cases hF
                exact V_ireturn dX6_readMeet_133 rfl (nb_n hz) ⟨rfl, rfl⟩
            · replace hF := (if_neg c).symm.trans hF
              refine V_aload_n dX6_readMeet_99 rfl ?_
              refine V_iconst (v := 4) dX6_readMeet_100 (by decide) ?_
              refine V_aload_n dX6_readMeet_101 rfl ?_
              refine X_gI G dX6_readMeet_102 fX6_55 ht.1 rfl ?_
              obtain ⟨y15, hc, hF⟩ := bd hF
              refine V_callV G dX6_readMeet_105 kX6_58 (wd_at ht.1) ⟨by decide, rfl⟩ (s_X6_fail ht G hc (by omega)) rfl (Nat.le_of_ble_eq_true rfl) (fun _ _ _ q => q.elim) ?_
              rintro _ _ ⟨rfl, rfl⟩
              obtain ⟨hz, hF⟩ := gv_out hF
              cases hF
              exact V_ireturn dX6_readMeet_108 rfl (nb_n hz) ⟨rfl, rfl⟩
        · replace hF := (if_neg c).symm.trans hF
          refine V_aload_n dX6_readMeet_69 rfl ?_
          refine V_iconst (v := 1) dX6_readMeet_70 (by decide) ?_
          refine V_aload_n dX6_readMeet_71 rfl ?_
          refine X_gI G dX6_readMeet_72 fX6_55 ht.1 rfl ?_
          obtain ⟨y16, hc, hF⟩ := bd hF
          refine V_callV G dX6_readMeet_75 kX6_58 (wd_at ht.1) ⟨by decide, rfl⟩ (s_X6_fail ht G hc (by omega)) rfl (Nat.le_of_ble_eq_true rfl) (fun _ _ _ q => q.elim) ?_
          rintro _ _ ⟨rfl, rfl⟩
          obtain ⟨hz, hF⟩ := gv_out hF
          cases hF
          exact V_ireturn dX6_readMeet_78 rfl (nb_n hz) ⟨rfl, rfl⟩
      · replace hF := (if_pos c).symm.trans hF
        refine V_iconst (v := 0) dX6_readMeet_50 (by decide) ?_
        cases hF
        exact V_ireturn dX6_readMeet_51 rfl (by decide) ⟨rfl, rfl⟩
    · replace hF := (if_pos c).symm.trans hF
      refine V_iconst (v := 0) dX6_readMeet_34 (by decide) ?_
      cases hF
      exact V_ireturn dX6_readMeet_35 rfl (by decide) ⟨rfl, rfl⟩
  · replace hF := (if_pos c).symm.trans hF
    refine V_aload_n dX6_readMeet_15 rfl ?_
    refine V_bipush (v := 6) dX6_readMeet_16 (by decide) ?_
    refine V_iload_n dX6_readMeet_18 rfl ?_
    obtain ⟨y17, hc, hF⟩ := bd hF
    refine V_callV G dX6_readMeet_19 kX6_58 (wd_at ht.1) ⟨by decide, rfl⟩ (s_X6_fail ht G hc (by omega)) rfl (Nat.le_of_ble_eq_true rfl) (fun _ _ _ q => q.elim) ?_
    rintro _ _ ⟨rfl, rfl⟩
    obtain ⟨hz, hF⟩ := gv_out hF
    cases hF
    exact V_ireturn dX6_readMeet_22 rfl (nb_n hz) ⟨rfl, rfl⟩
set_option maxRecDepth 100000 in
set_option maxHeartbeats 4000000 in
theorem s_X6_readLine {l : Launch} {s0 : State} {D : va_G} {a0 : Array Value} {sh : List Sh} {f : Nat} {S : St} {t : Nat} (ht : isX6 sh t) {r : Int32 × St} (G : GC l s0 D a0) (hF : F_X6_readLine sh f S t = some r) {d : Nat} (hd : 6 ≤ d) : Sp l s0 D d 0 0 mX6_readLine (fun v h => v = some (.int r.1) ∧ h = wd s0.heap.size sh r.2) v_noX [.ref (s0.heap.size + t)] (wd s0.heap.size sh S) := by
  obtain ⟨d, rfl⟩ : ∃ e, d = e + 1 := ⟨d - 1, by omega⟩
  refine Sp.of (by decide +kernel) rfl (Nat.le_of_ble_eq_true rfl) ?_
  unfold F_X6_readLine at hF
  refine V_aload_n dX6_readLine_0 rfl ?_
  refine X_gI G dX6_readLine_1 fX6_52 ht.1 rfl ?_
  refine V_iconst (v := 1) dX6_readLine_4 (by decide) ?_
  refine V_icmp_eq (tgt := 18) dX6_readLine_5 (by decide) (fun c => ?_) (fun c => ?_)
  · replace hF := (if_pos c).symm.trans hF
    refine V_aload_n dX6_readLine_18 rfl ?_
    refine X_gJ G dX6_readLine_19 fX6_79 ht.1 rfl ?_
    refine V_ldc2 dX6_readLine_22 qX6_86 ?_
    refine V_lcmp dX6_readLine_25 ?_
    refine V_if_ne (tgt := 34) dX6_readLine_26 (by decide) (fun c => ?_) (fun c => ?_)
    · replace hF := (if_neg c).symm.trans hF
      refine V_aload_n dX6_readLine_34 rfl ?_
      refine X_gJ G dX6_readLine_35 fX6_79 ht.1 rfl ?_
      refine V_ldc2 dX6_readLine_38 qX6_91 ?_
      refine V_lcmp dX6_readLine_41 ?_
      refine V_if_ne (tgt := 51) dX6_readLine_42 (by decide) (fun c => ?_) (fun c => ?_)
      · replace hF := (if_neg c).symm.trans hF
        refine V_aload_n dX6_readLine_51 rfl ?_
        refine X_gJ G dX6_readLine_52 fX6_79 ht.1 rfl ?_
        refine V_ldc2 dX6_readLine_55 qX6_96 ?_
        refine V_lcmp dX6_readLine_58 ?_
        refine V_if_ne (tgt := 68) dX6_readLine_59 (by decide) (fun c => ?_) (fun c => ?_)
        · replace hF := (if_neg c).symm.trans hF
          refine V_aload_n dX6_readLine_68 rfl ?_
          refine X_gJ G dX6_readLine_69 fX6_79 ht.1 rfl ?_
          refine V_ldc2 dX6_readLine_72 qX6_98 ?_
          refine V_lcmp dX6_readLine_75 ?_
          refine V_if_ne (tgt := 84) dX6_readLine_76 (by decide) (fun c => ?_) (fun c => ?_)
          · replace hF := (if_neg c).symm.trans hF
            refine V_aload_n dX6_readLine_84 rfl ?_
            refine V_iconst (v := 1) dX6_readLine_85 (by decide) ?_
            refine V_aload_n dX6_readLine_86 rfl ?_
            refine X_gI G dX6_readLine_87 fX6_55 ht.1 rfl ?_
            obtain ⟨y1, hc, hF⟩ := bd hF
            refine V_callV G dX6_readLine_90 kX6_58 (wd_at ht.1) ⟨by decide, rfl⟩ (s_X6_fail ht G hc (by omega)) rfl (Nat.le_of_ble_eq_true rfl) (fun _ _ _ q => q.elim) ?_
            rintro _ _ ⟨rfl, rfl⟩
            obtain ⟨hz, hF⟩ := gv_out hF
            cases hF
            exact V_ireturn dX6_readLine_93 rfl (nb_n hz) ⟨rfl, rfl⟩
          · replace hF := (if_pos c).symm.trans hF
            refine V_aload_n dX6_readLine_79 rfl ?_
            obtain ⟨y2, hc, hF⟩ := bd hF
            refine V_callV G dX6_readLine_80 kX6_100 (wd_at ht.1) ⟨by decide, rfl⟩ (s_X6_readMeet ht G hc (by omega)) rfl (Nat.le_of_ble_eq_true rfl) (fun _ _ _ q => q.elim) ?_
            rintro _ _ ⟨rfl, rfl⟩
            obtain ⟨hz, hF⟩ := gv_out hF
            cases hF
            exact V_ireturn dX6_readLine_83 rfl (nb_n hz) ⟨rfl, rfl⟩
        · replace hF := (if_pos c).symm.trans hF
          refine V_aload_n dX6_readLine_62 rfl ?_
          refine V_iconst (v := 2) dX6_readLine_63 (by decide) ?_
          obtain ⟨y3, hc, hF⟩ := bd hF
          refine V_callV G dX6_readLine_64 kX6_93 (wd_at ht.1) ⟨by decide, rfl⟩ (s_X6_readTwo ht G hc (by omega)) rfl (Nat.le_of_ble_eq_true rfl) (fun _ _ _ q => q.elim) ?_
          rintro _ _ ⟨rfl, rfl⟩
          obtain ⟨hz, hF⟩ := gv_out hF
          cases hF
          exact V_ireturn dX6_readLine_67 rfl (nb_n hz) ⟨rfl, rfl⟩
      · replace hF := (if_pos c).symm.trans hF
        refine V_aload_n dX6_readLine_45 rfl ?_
        refine V_iconst (v := 1) dX6_readLine_46 (by decide) ?_
        obtain ⟨y4, hc, hF⟩ := bd hF
        refine V_callV G dX6_readLine_47 kX6_93 (wd_at ht.1) ⟨by decide, rfl⟩ (s_X6_readTwo ht G hc (by omega)) rfl (Nat.le_of_ble_eq_true rfl) (fun _ _ _ q => q.elim) ?_
        rintro _ _ ⟨rfl, rfl⟩
        obtain ⟨hz, hF⟩ := gv_out hF
        cases hF
        exact V_ireturn dX6_readLine_50 rfl (nb_n hz) ⟨rfl, rfl⟩
    · replace hF := (if_pos c).symm.trans hF
      refine V_aload_n dX6_readLine_29 rfl ?_
      obtain ⟨y5, hc, hF⟩ := bd hF
      refine V_callV G dX6_readLine_30 kX6_88 (wd_at ht.1) ⟨by decide, rfl⟩ (s_X6_readOwn ht G hc (by omega)) rfl (Nat.le_of_ble_eq_true rfl) (fun _ _ _ q => q.elim) ?_
      rintro _ _ ⟨rfl, rfl⟩
      obtain ⟨hz, hF⟩ := gv_out hF
      cases hF
      exact V_ireturn dX6_readLine_33 rfl (nb_n hz) ⟨rfl, rfl⟩
  · replace hF := (if_neg c).symm.trans hF
    refine V_aload_n dX6_readLine_8 rfl ?_
    refine V_iconst (v := 1) dX6_readLine_9 (by decide) ?_
    refine V_aload_n dX6_readLine_10 rfl ?_
    refine X_gI G dX6_readLine_11 fX6_55 ht.1 rfl ?_
    obtain ⟨y6, hc, hF⟩ := bd hF
    refine V_callV G dX6_readLine_14 kX6_58 (wd_at ht.1) ⟨by decide, rfl⟩ (s_X6_fail ht G hc (by omega)) rfl (Nat.le_of_ble_eq_true rfl) (fun _ _ _ q => q.elim) ?_
    rintro _ _ ⟨rfl, rfl⟩
    obtain ⟨hz, hF⟩ := gv_out hF
    cases hF
    exact V_ireturn dX6_readLine_17 rfl (nb_n hz) ⟨rfl, rfl⟩
set_option maxRecDepth 100000 in
set_option maxHeartbeats 4000000 in
theorem w_X6_read_L33 {l : Launch} {s0 : State} {D : va_G} {a0 : Array Value} {sh : List Sh} {f : Nat} {t : Nat} {p1 : Int32} (ht : isX6 sh t) {r : Int32 × St} {d : Nat} (G : GC l s0 D a0) (hd : 7 ≤ d + 1) : ∀ (n : Nat) (S : St) (l2 : Int32), F_X6_read_L33 sh f t p1 n S l2 = some r → V l s0 D (d + 1) 0 0 mX6_read (fun v h => v = some (.int r.1) ∧ h = wd s0.heap.size sh r.2) v_noX 33 [(0, .ref (s0.heap.size + t)), (2, .int l2)] [] (wd s0.heap.size sh S) := by
  intro n
  induction n with
  | zero => intro S l2 hF; cases hF
  | succ n ih =>
    intro S l2 hF
    unfold F_X6_read_L33 at hF
    refine V_iload_n dX6_read_33 rfl ?_
    refine V_sipush (v := 400) dX6_read_34 (by decide) ?_
    refine V_icmp_ge (tgt := 86) dX6_read_37 (by decide) (fun c => ?_) (fun c => ?_)
    · replace hF := (if_pos c).symm.trans hF
      refine V_aload_n dX6_read_86 rfl ?_
      refine V_iconst (v := 1) dX6_read_87 (by decide) ?_
      refine V_aload_n dX6_read_88 rfl ?_
      refine X_gI G dX6_read_89 fX6_55 ht.1 rfl ?_
      obtain ⟨y1, hc, hF⟩ := bd hF
      refine V_callV G dX6_read_92 kX6_58 (wd_at ht.1) ⟨by decide, rfl⟩ (s_X6_fail ht G hc (by omega)) rfl (Nat.le_of_ble_eq_true rfl) (fun _ _ _ q => q.elim) ?_
      rintro _ _ ⟨rfl, rfl⟩
      obtain ⟨hz, hF⟩ := gv_out hF
      cases hF
      exact V_ireturn dX6_read_95 rfl (nb_n hz) ⟨rfl, rfl⟩
    · replace hF := (if_neg c).symm.trans hF
      refine V_aload_n dX6_read_40 rfl ?_
      obtain ⟨y2, hc, hF⟩ := bd hF
      refine V_callV G dX6_read_41 kX6_48 (wd_at ht.1) ⟨by decide, rfl⟩ (s_X6_readLine ht G hc (by omega)) rfl (Nat.le_of_ble_eq_true rfl) (fun _ _ _ q => q.elim) ?_
      rintro _ _ ⟨rfl, rfl⟩
      refine V_if_ne (tgt := 49) dX6_read_44 (by decide) (fun c => ?_) (fun c => ?_)
      · replace hF := (if_neg c).symm.trans hF
        refine V_aload_n dX6_read_49 rfl ?_
        refine X_gI G dX6_read_50 fX6_52 ht.1 rfl ?_
        refine V_if_ne (tgt := 58) dX6_read_53 (by decide) (fun c => ?_) (fun c => ?_)
        · replace hF := (if_neg c).symm.trans hF
          refine V_aload_n dX6_read_58 rfl ?_
          refine X_gI G dX6_read_59 fX6_52 ht.1 rfl ?_
          refine V_iconst (v := 3) dX6_read_62 (by decide) ?_
          refine V_icmp_eq (tgt := 76) dX6_read_63 (by decide) (fun c => ?_) (fun c => ?_)
          · replace hF := (if_pos c).symm.trans hF
            refine V_aload_n dX6_read_76 rfl ?_
            obtain ⟨y3, hc, hF⟩ := bd hF
            refine V_callV G dX6_read_77 kX6_45 (wd_at ht.1) ⟨by decide, rfl⟩ (s_X6_advance ht G hc (by omega)) rfl (Nat.le_of_ble_eq_true rfl) (fun _ _ _ q => q.elim) ?_
            rintro _ _ ⟨rfl, rfl⟩
            obtain ⟨x4, qx4, hF⟩ := bnd_g hF
            refine B_iinc (v := 1) qx4 dX6_read_80 rfl (by decide) (by decide) ?_
            refine V_goto (tgt := 33) dX6_read_83 (by decide) ?_
            exact V_lv' (ih _ _ hF) (v_all_c rfl (v_all_c rfl v_all_n))
          · replace hF := (if_neg c).symm.trans hF
            refine V_aload_n dX6_read_66 rfl ?_
            refine V_iconst (v := 1) dX6_read_67 (by decide) ?_
            refine V_aload_n dX6_read_68 rfl ?_
            refine X_gI G dX6_read_69 fX6_55 ht.1 rfl ?_
            obtain ⟨y5, hc, hF⟩ := bd hF
            refine V_callV G dX6_read_72 kX6_58 (wd_at ht.1) ⟨by decide, rfl⟩ (s_X6_fail ht G hc (by omega)) rfl (Nat.le_of_ble_eq_true rfl) (fun _ _ _ q => q.elim) ?_
            rintro _ _ ⟨rfl, rfl⟩
            obtain ⟨hz, hF⟩ := gv_out hF
            cases hF
            exact V_ireturn dX6_read_75 rfl (nb_n hz) ⟨rfl, rfl⟩
        · replace hF := (if_pos c).symm.trans hF
          refine V_iconst (v := 1) dX6_read_56 (by decide) ?_
          cases hF
          exact V_ireturn dX6_read_57 rfl (by decide) ⟨rfl, rfl⟩
      · replace hF := (if_pos c).symm.trans hF
        refine V_iconst (v := 0) dX6_read_47 (by decide) ?_
        cases hF
        exact V_ireturn dX6_read_48 rfl (by decide) ⟨rfl, rfl⟩
set_option maxRecDepth 100000 in
set_option maxHeartbeats 4000000 in
theorem s_X6_read {l : Launch} {s0 : State} {D : va_G} {a0 : Array Value} {sh : List Sh} {f : Nat} {S : St} {t : Nat} {p1 : Int32} (ht : isX6 sh t) {r : Int32 × St} (G : GC l s0 D a0) (hF : F_X6_read sh f S t p1 = some r) {d : Nat} (hd : 7 ≤ d) : Sp l s0 D d 0 0 mX6_read (fun v h => v = some (.int r.1) ∧ h = wd s0.heap.size sh r.2) v_noX [.ref (s0.heap.size + t), .int p1] (wd s0.heap.size sh S) := by
  obtain ⟨d, rfl⟩ : ∃ e, d = e + 1 := ⟨d - 1, by omega⟩
  refine Sp.of (by decide +kernel) rfl (Nat.le_of_ble_eq_true rfl) ?_
  unfold F_X6_read at hF
  refine V_aload_n dX6_read_0 rfl ?_
  refine V_iload_n dX6_read_1 rfl ?_
  refine X_pI G dX6_read_2 gX6_30 ht.1 rfl rfl rfl ?_
  obtain ⟨S1, qS1, hF⟩ := bnd_g hF
  refine V_eqS qS1 ?_
  refine V_aload_n dX6_read_5 rfl ?_
  refine V_iconst (v := 0) dX6_read_6 (by decide) ?_
  refine X_pI G dX6_read_7 gX6_33 ht.1 rfl rfl rfl ?_
  obtain ⟨S2, qS2, hF⟩ := bnd_g hF
  refine V_eqS qS2 ?_
  refine V_aload_n dX6_read_10 rfl ?_
  refine V_iconst (v := 0) dX6_read_11 (by decide) ?_
  refine X_pI G dX6_read_12 gX6_36 ht.1 rfl rfl rfl ?_
  obtain ⟨S3, qS3, hF⟩ := bnd_g hF
  refine V_eqS qS3 ?_
  refine V_aload_n dX6_read_15 rfl ?_
  refine V_iconst (v := -1) dX6_read_16 (by decide) ?_
  refine X_pI G dX6_read_17 gX6_39 ht.1 rfl rfl rfl ?_
  obtain ⟨S4, qS4, hF⟩ := bnd_g hF
  refine V_eqS qS4 ?_
  refine V_aload_n dX6_read_20 rfl ?_
  obtain ⟨b5, hrb5, hF⟩ := bd hF
  obtain ⟨hb5, hF⟩ := gv_in hF
  replace hb5 := ckX0_ok hb5
  refine X_gR G dX6_read_21 fX6_18 ht.1 rfl hrb5 ?_
  obtain ⟨y6, hc, hF⟩ := bd hF
  refine V_callV G dX6_read_24 kX6_42 (wd_at hb5.1) ⟨by decide, rfl⟩ (s_X0_clear hb5 G hc (by omega)) rfl (Nat.le_of_ble_eq_true rfl) (fun _ _ _ q => q.elim) ?_
  rintro _ _ ⟨rfl, rfl⟩
  refine V_aload_n dX6_read_27 rfl ?_
  obtain ⟨y7, hc, hF⟩ := bd hF
  refine V_callV G dX6_read_28 kX6_45 (wd_at ht.1) ⟨by decide, rfl⟩ (s_X6_advance ht G hc (by omega)) rfl (Nat.le_of_ble_eq_true rfl) (fun _ _ _ q => q.elim) ?_
  rintro _ _ ⟨rfl, rfl⟩
  refine V_iconst (v := 0) dX6_read_31 (by decide) ?_
  refine V_istore_n dX6_read_32 (by decide) ?_
  exact V_lv' (w_X6_read_L33 ht G hd f _ _ hF) (v_all_c rfl (v_all_c rfl v_all_n))
set_option maxRecDepth 100000 in
set_option maxHeartbeats 4000000 in
theorem w_X7_clear_L2 {l : Launch} {s0 : State} {D : va_G} {a0 : Array Value} {sh : List Sh} {f : Nat} {t : Nat} (ht : isX7 sh t) {r : St} {d : Nat} (G : GC l s0 D a0) (hd : 1 ≤ d + 1) : ∀ (n : Nat) (S : St) (l1 : Int32), F_X7_clear_L2 sh f t n S l1 = some r → V l s0 D (d + 1) 0 0 mX7_clear (fun v h => v = none ∧ h = wd s0.heap.size sh r) v_noX 2 [(0, .ref (s0.heap.size + t)), (1, .int l1)] [] (wd s0.heap.size sh S) := by
  intro n
  induction n with
  | zero => intro S l1 hF; cases hF
  | succ n ih =>
    intro S l1 hF
    unfold F_X7_clear_L2 at hF
    refine V_iload_n dX7_clear_2 rfl ?_
    refine V_iconst (v := 4) dX7_clear_3 (by decide) ?_
    refine V_icmp_ge (tgt := 20) dX7_clear_4 (by decide) (fun c => ?_) (fun c => ?_)
    · replace hF := (if_pos c).symm.trans hF
      refine V_aload_n dX7_clear_20 rfl ?_
      refine V_iconst (v := -1) dX7_clear_21 (by decide) ?_
      refine X_pI G dX7_clear_22 gX7_18 ht.1 rfl rfl rfl ?_
      obtain ⟨S1, qS1, hF⟩ := bnd_g hF
      refine V_eqS qS1 ?_
      refine V_aload_n dX7_clear_25 rfl ?_
      refine V_iconst (v := 0) dX7_clear_26 (by decide) ?_
      refine X_pI G dX7_clear_27 gX7_22 ht.1 rfl (by decide) (by decide) ?_
      obtain ⟨S2, qS2, hF⟩ := bnd_g hF
      refine V_eqS qS2 ?_
      cases hF
      exact V_return dX7_clear_30 rfl ⟨rfl, rfl⟩
    · replace hF := (if_neg c).symm.trans hF
      refine V_aload_n dX7_clear_7 rfl ?_
      refine X_gC G dX7_clear_8 fX7_11 ht.1 rfl ?_
      refine V_iload_n dX7_clear_11 rfl ?_
      refine V_lconst (v := 0) dX7_clear_12 (by decide) ?_
      obtain ⟨hz, hF⟩ := gv_out hF
      refine X_last dX7_clear_13 ht.2.1 hz ?_
      obtain ⟨S3, qS3, hF⟩ := bnd_g hF
      refine V_eqS qS3 ?_
      obtain ⟨x4, qx4, hF⟩ := bnd_g hF
      refine B_iinc (v := 1) qx4 dX7_clear_14 rfl (by decide) (by decide) ?_
      refine V_goto (tgt := 2) dX7_clear_17 (by decide) ?_
      exact V_lv' (ih _ _ hF) (v_all_c rfl (v_all_c rfl v_all_n))
set_option maxRecDepth 100000 in
set_option maxHeartbeats 4000000 in
theorem s_X7_clear {l : Launch} {s0 : State} {D : va_G} {a0 : Array Value} {sh : List Sh} {f : Nat} {S : St} {t : Nat} (ht : isX7 sh t) {r : St} (G : GC l s0 D a0) (hF : F_X7_clear sh f S t = some r) {d : Nat} (hd : 1 ≤ d) : Sp l s0 D d 0 0 mX7_clear (fun v h => v = none ∧ h = wd s0.heap.size sh r) v_noX [.ref (s0.heap.size + t)] (wd s0.heap.size sh S) := by
  obtain ⟨d, rfl⟩ : ∃ e, d = e + 1 := ⟨d - 1, by omega⟩
  refine Sp.of (by decide +kernel) rfl (Nat.le_of_ble_eq_true rfl) ?_
  unfold F_X7_clear at hF
  refine V_iconst (v := 0) dX7_clear_0 (by decide) ?_
  refine V_istore_n dX7_clear_1 (by decide) ?_
  exact V_lv' (w_X7_clear_L2 ht G hd f _ _ hF) (v_all_c rfl (v_all_c rfl v_all_n))
set_option maxRecDepth 100000 in
set_option maxHeartbeats 4000000 in
theorem w_X7_findCut_L3 {l : Launch} {s0 : State} {D : va_G} {a0 : Array Value} {sh : List Sh} {f : Nat} {S : St} {p0 : Nat} {p1 : Int32} {p2 : Int32} {p3 : Int32} (hp0 : isX3 sh p0) {r : Int32} {d : Nat} (G : GC l s0 D a0) (hd : 2 ≤ d + 1) : ∀ (n : Nat) (l4 : Int32), F_X7_findCut_L3 sh f S p0 p1 p2 p3 n l4 = some r → V l s0 D (d + 1) 0 0 mX7_findCut (fun v h => v = some (.int r) ∧ h = wd s0.heap.size sh S) v_noX 3 [(0, .ref (s0.heap.size + p0)), (1, .int p1), (2, .int p2), (3, .int p3), (4, .int l4)] [] (wd s0.heap.size sh S) := by
  intro n
  induction n with
  | zero => intro l4 hF; cases hF
  | succ n ih =>
    intro l4 hF
    unfold F_X7_findCut_L3 at hF
    refine V_iload dX7_findCut_3 rfl ?_
    refine V_aload_n dX7_findCut_5 rfl ?_
    refine X_gC G dX7_findCut_6 fX7_55 hp0.1 rfl ?_
    refine V_iload_n dX7_findCut_9 rfl ?_
    obtain ⟨hz, hF⟩ := gv_out hF
    refine X_iald dX7_findCut_10 hp0.2.2.2.2.2.1 hz ?_
    refine V_icmp_ge (tgt := 45) dX7_findCut_11 (by decide) (fun c => ?_) (fun c => ?_)
    · replace hF := (if_pos c).symm.trans hF
      refine V_iconst (v := -1) dX7_findCut_45 (by decide) ?_
      cases hF
      exact V_ireturn dX7_findCut_46 rfl rfl ⟨rfl, rfl⟩
    · replace hF := (if_neg c).symm.trans hF
      refine V_aload_n dX7_findCut_14 rfl ?_
      refine V_iload_n dX7_findCut_15 rfl ?_
      refine V_iload dX7_findCut_16 rfl ?_
      obtain ⟨y1, hc, hF⟩ := bd hF
      refine V_callV G dX7_findCut_18 kX7_58 (wd_at hp0.1) ⟨by decide, rfl⟩ (s_X3_sideOf hp0 G hc (by omega)) rfl (Nat.le_of_ble_eq_true rfl) (fun _ _ _ q => q.elim) ?_
      rintro _ _ ⟨rfl, rfl⟩
      refine V_iload_n dX7_findCut_21 rfl ?_
      refine V_icmp_ne (tgt := 39) dX7_findCut_22 (by decide) (fun c => ?_) (fun c => ?_)
      · replace hF := (if_neg c).symm.trans hF
        obtain ⟨x2, qx2, hF⟩ := bnd_g hF
        refine B_iinc (v := 1) qx2 dX7_findCut_39 rfl (by decide) (by decide) ?_
        refine V_goto (tgt := 3) dX7_findCut_42 (by decide) ?_
        exact V_lv' (ih _ hF) (v_all_c rfl (v_all_c rfl (v_all_c rfl (v_all_c rfl (v_all_c rfl v_all_n)))))
      · replace hF := (if_pos c).symm.trans hF
        refine V_aload_n dX7_findCut_25 rfl ?_
        refine V_iload_n dX7_findCut_26 rfl ?_
        refine V_iload dX7_findCut_27 rfl ?_
        obtain ⟨y3, hc, hF⟩ := bd hF
        refine V_callV G dX7_findCut_29 kX7_62 (wd_at hp0.1) ⟨by decide, rfl⟩ (s_X3_sideKindOf hp0 G hc (by omega)) rfl (Nat.le_of_ble_eq_true rfl) (fun _ _ _ q => q.elim) ?_
        rintro _ _ ⟨rfl, rfl⟩
        refine V_iload_n dX7_findCut_32 rfl ?_
        refine V_icmp_ne (tgt := 39) dX7_findCut_33 (by decide) (fun c => ?_) (fun c => ?_)
        · replace hF := (if_neg c).symm.trans hF
          obtain ⟨x4, qx4, hF⟩ := bnd_g hF
          refine B_iinc (v := 1) qx4 dX7_findCut_39 rfl (by decide) (by decide) ?_
          refine V_goto (tgt := 3) dX7_findCut_42 (by decide) ?_
          exact V_lv' (ih _ hF) (v_all_c rfl (v_all_c rfl (v_all_c rfl (v_all_c rfl (v_all_c rfl v_all_n)))))
        · replace hF := (if_pos c).symm.trans hF
          refine V_iload dX7_findCut_36 rfl ?_
          cases hF
          exact V_ireturn dX7_findCut_38 rfl rfl ⟨rfl, rfl⟩
set_option maxRecDepth 100000 in
set_option maxHeartbeats 4000000 in
theorem s_X7_findCut {l : Launch} {s0 : State} {D : va_G} {a0 : Array Value} {sh : List Sh} {f : Nat} {S : St} {p0 : Nat} {p1 : Int32} {p2 : Int32} {p3 : Int32} (hp0 : isX3 sh p0) {r : Int32} (G : GC l s0 D a0) (hF : F_X7_findCut sh f S p0 p1 p2 p3 = some r) {d : Nat} (hd : 2 ≤ d) : Sp l s0 D d 0 0 mX7_findCut (fun v h => v = some (.int r) ∧ h = wd s0.heap.size sh S) v_noX [.ref (s0.heap.size + p0), .int p1, .int p2, .int p3] (wd s0.heap.size sh S) := by
  obtain ⟨d, rfl⟩ : ∃ e, d = e + 1 := ⟨d - 1, by omega⟩
  refine Sp.of (by decide +kernel) rfl (Nat.le_of_ble_eq_true rfl) ?_
  unfold F_X7_findCut at hF
  refine V_iconst (v := 0) dX7_findCut_0 (by decide) ?_
  refine V_istore dX7_findCut_1 (by decide) ?_
  exact V_lv' (w_X7_findCut_L3 hp0 G hd f _ hF) (v_all_c rfl (v_all_c rfl (v_all_c rfl (v_all_c rfl (v_all_c rfl v_all_n)))))
set_option maxRecDepth 100000 in
set_option maxHeartbeats 4000000 in
theorem w_X7_divideByJoins_L122 {l : Launch} {s0 : State} {D : va_G} {a0 : Array Value} {sh : List Sh} {f : Nat} {t : Nat} {p1 : Nat} {p2 : Int32} {p3 : Nat} {p4 : Nat} {p5 : Int32} (ht : isX7 sh t) (hp1 : isX3 sh p1) (hp3 : isX0 sh p3) (hp4 : isX1 sh p4) {r : St} {d : Nat} (G : GC l s0 D a0) (hd : 2 ≤ d + 1) {k32 : St → Int32 → Option (St)} (hk32 : ∀ (S : St) (l6 : Int32), k32 S l6 = some r → V l s0 D (d + 1) 0 0 mX7_divideByJoins (fun v h => v = none ∧ h = wd s0.heap.size sh r) v_noX 32 [(0, .ref (s0.heap.size + t)), (1, .ref (s0.heap.size + p1)), (2, .int p2), (3, .ref (s0.heap.size + p3)), (4, .ref (s0.heap.size + p4)), (5, .int p5), (6, .int l6)] [] (wd s0.heap.size sh S)) : ∀ (n : Nat) (S : St) (l6 : Int32) (l11 : Int64) (l13 : Int32), F_X7_divideByJoins_L122 sh f t p1 p2 p3 p4 p5 k32 n S l6 l11 l13 = some r → V l s0 D (d + 1) 0 0 mX7_divideByJoins (fun v h => v = none ∧ h = wd s0.heap.size sh r) v_noX 122 [(0, .ref (s0.heap.size + t)), (1, .ref (s0.heap.size + p1)), (2, .int p2), (3, .ref (s0.heap.size + p3)), (4, .ref (s0.heap.size + p4)), (5, .int p5), (6, .int l6), (11, .long l11), (13, .int l13)] [] (wd s0.heap.size sh S) := by
  intro n
  induction n with
  | zero => intro S l6 l11 l13 hF; cases hF
  | succ n ih =>
    intro S l6 l11 l13 hF
    unfold F_X7_divideByJoins_L122 at hF
    refine V_iload dX7_divideByJoins_122 rfl ?_
    refine V_iconst (v := 4) dX7_divideByJoins_124 (by decide) ?_
    refine V_icmp_ge (tgt := 168) dX7_divideByJoins_125 (by decide) (fun c => ?_) (fun c => ?_)
    · replace hF := (if_pos c).symm.trans hF
      obtain ⟨x1, qx1, hF⟩ := bnd_g hF
      refine B_iinc (v := 1) qx1 dX7_divideByJoins_168 rfl (by decide) (by decide) ?_
      refine V_goto (tgt := 32) dX7_divideByJoins_171 (by decide) ?_
      exact V_lv' (hk32 _ _ hF) (v_all_c rfl (v_all_c rfl (v_all_c rfl (v_all_c rfl (v_all_c rfl (v_all_c rfl (v_all_c rfl v_all_n)))))))
    · replace hF := (if_neg c).symm.trans hF
      refine V_gtab G dX7_divideByJoins_128 (v_tb2) zX7_78 (fun a2 ha2 => ?_)
      refine V_iload dX7_divideByJoins_131 rfl ?_
      obtain ⟨hz, hF⟩ := gv_out hF
      refine V_tald (f := v_tf v_T2) dX7_divideByJoins_133 ha2 hz ?_
      refine V_i2l dX7_divideByJoins_134 ?_
      obtain ⟨x3, qx3, hF⟩ := bnd_g hF
      refine B_lstore qx3 dX7_divideByJoins_135 (by decide) ?_
      refine V_aload_n dX7_divideByJoins_137 rfl ?_
      refine X_gC G dX7_divideByJoins_138 fX7_15 ht.1 rfl ?_
      refine V_iload dX7_divideByJoins_141 rfl ?_
      refine V_aload_n dX7_divideByJoins_143 rfl ?_
      refine X_gC G dX7_divideByJoins_144 fX7_15 ht.1 rfl ?_
      refine V_iload dX7_divideByJoins_147 rfl ?_
      obtain ⟨hz, hF⟩ := gv_out hF
      refine X_lald dX7_divideByJoins_149 ht.2.2 hz ?_
      refine V_lload dX7_divideByJoins_150 rfl ?_
      refine V_lload dX7_divideByJoins_152 rfl ?_
      obtain ⟨y4, hc, hF⟩ := bd hF
      refine V_callS dX7_divideByJoins_154 kX7_81 (s_J9_floorMod_f86c9 G hc (by omega)) rfl (Nat.le_of_ble_eq_true rfl) (fun _ _ _ q => q.elim) ?_
      rintro _ _ ⟨rfl, rfl⟩
      refine V_lmul dX7_divideByJoins_157 ?_
      refine V_lload dX7_divideByJoins_158 rfl ?_
      obtain ⟨hz, hF⟩ := gv_out hF
      refine V_lrem dX7_divideByJoins_160 hz ?_
      obtain ⟨hz, hF⟩ := gv_out hF
      refine X_last dX7_divideByJoins_161 ht.2.2 hz ?_
      obtain ⟨S5, qS5, hF⟩ := bnd_g hF
      refine V_eqS qS5 ?_
      obtain ⟨x6, qx6, hF⟩ := bnd_g hF
      refine B_iinc (v := 1) qx6 dX7_divideByJoins_162 rfl (by decide) (by decide) ?_
      refine V_goto (tgt := 122) dX7_divideByJoins_165 (by decide) ?_
      exact V_lv' (ih _ _ _ _ hF) (v_all_c rfl (v_all_c rfl (v_all_c rfl (v_all_c rfl (v_all_c rfl (v_all_c rfl (v_all_c rfl (v_all_c rfl (v_all_c rfl v_all_n)))))))))
set_option maxRecDepth 100000 in
set_option maxHeartbeats 4000000 in
theorem w_X7_divideByJoins_L32 {l : Launch} {s0 : State} {D : va_G} {a0 : Array Value} {sh : List Sh} {f : Nat} {t : Nat} {p1 : Nat} {p2 : Int32} {p3 : Nat} {p4 : Nat} {p5 : Int32} (ht : isX7 sh t) (hp1 : isX3 sh p1) (hp3 : isX0 sh p3) (hp4 : isX1 sh p4) {r : St} {d : Nat} (G : GC l s0 D a0) (hd : 2 ≤ d + 1) : ∀ (n : Nat) (S : St) (l6 : Int32), F_X7_divideByJoins_L32 sh f t p1 p2 p3 p4 p5 n S l6 = some r → V l s0 D (d + 1) 0 0 mX7_divideByJoins (fun v h => v = none ∧ h = wd s0.heap.size sh r) v_noX 32 [(0, .ref (s0.heap.size + t)), (1, .ref (s0.heap.size + p1)), (2, .int p2), (3, .ref (s0.heap.size + p3)), (4, .ref (s0.heap.size + p4)), (5, .int p5), (6, .int l6)] [] (wd s0.heap.size sh S) := by
  intro n
  induction n with
  | zero => intro S l6 hF; cases hF
  | succ n ih =>
    intro S l6 hF
    unfold F_X7_divideByJoins_L32 at hF
    refine V_iload dX7_divideByJoins_32 rfl ?_
    refine V_aload_n dX7_divideByJoins_34 rfl ?_
    refine X_gC G dX7_divideByJoins_35 fX7_55 hp1.1 rfl ?_
    refine V_iload_n dX7_divideByJoins_38 rfl ?_
    obtain ⟨hz, hF⟩ := gv_out hF
    refine X_iald dX7_divideByJoins_39 hp1.2.2.2.2.2.1 hz ?_
    refine V_icmp_ge (tgt := 174) dX7_divideByJoins_40 (by decide) (fun c => ?_) (fun c => ?_)
    · replace hF := (if_pos c).symm.trans hF
      cases hF
      exact V_return dX7_divideByJoins_174 rfl ⟨rfl, rfl⟩
    · replace hF := (if_neg c).symm.trans hF
      refine V_iload dX7_divideByJoins_43 rfl ?_
      refine V_iload dX7_divideByJoins_45 rfl ?_
      refine V_icmp_eq (tgt := 168) dX7_divideByJoins_47 (by decide) (fun c => ?_) (fun c => ?_)
      · replace hF := (if_pos c).symm.trans hF
        obtain ⟨x1, qx1, hF⟩ := bnd_g hF
        refine B_iinc (v := 1) qx1 dX7_divideByJoins_168 rfl (by decide) (by decide) ?_
        refine V_goto (tgt := 32) dX7_divideByJoins_171 (by decide) ?_
        exact V_lv' (ih _ _ hF) (v_all_c rfl (v_all_c rfl (v_all_c rfl (v_all_c rfl (v_all_c rfl (v_all_c rfl (v_all_c rfl v_all_n)))))))
      · replace hF := (if_neg c).symm.trans hF
        refine V_aload dX7_divideByJoins_50 rfl ?_
        refine V_aload_n dX7_divideByJoins_52 rfl ?_
        refine V_iload_n dX7_divideByJoins_53 rfl ?_
        refine V_iload dX7_divideByJoins_54 rfl ?_
        obtain ⟨y2, hc, hF⟩ := bd hF
        refine V_callV G dX7_divideByJoins_56 kX7_58 (wd_at hp1.1) ⟨by decide, rfl⟩ (s_X3_sideOf hp1 G hc (by omega)) rfl (Nat.le_of_ble_eq_true rfl) (fun _ _ _ q => q.elim) ?_
        rintro _ _ ⟨rfl, rfl⟩
        obtain ⟨y3, hc, hF⟩ := bd hF
        refine V_callV G dX7_divideByJoins_59 kX7_68 (wd_at hp4.1) ⟨by decide, rfl⟩ (s_X1_flow hp4 G hc (by omega)) rfl (Nat.le_of_ble_eq_true rfl) (fun _ _ _ q => q.elim) ?_
        rintro _ _ ⟨rfl, rfl⟩
        refine V_i2l dX7_divideByJoins_62 ?_
        obtain ⟨x4, qx4, hF⟩ := bnd_g hF
        refine B_lstore qx4 dX7_divideByJoins_63 (by decide) ?_
        refine V_aload_n dX7_divideByJoins_65 rfl ?_
        refine X_gC G dX7_divideByJoins_66 fX7_73 hp3.1 rfl ?_
        refine V_aload_n dX7_divideByJoins_69 rfl ?_
        refine V_iload_n dX7_divideByJoins_70 rfl ?_
        refine V_iload dX7_divideByJoins_71 rfl ?_
        obtain ⟨y5, hc, hF⟩ := bd hF
        refine V_callV G dX7_divideByJoins_73 kX7_62 (wd_at hp1.1) ⟨by decide, rfl⟩ (s_X3_sideKindOf hp1 G hc (by omega)) rfl (Nat.le_of_ble_eq_true rfl) (fun _ _ _ q => q.elim) ?_
        rintro _ _ ⟨rfl, rfl⟩
        obtain ⟨hz, hF⟩ := gv_out hF
        refine X_iald dX7_divideByJoins_76 hp3.2.2.2.1 hz ?_
        refine V_i2l dX7_divideByJoins_77 ?_
        obtain ⟨x6, qx6, hF⟩ := bnd_g hF
        refine B_lstore qx6 dX7_divideByJoins_78 (by decide) ?_
        refine V_lload dX7_divideByJoins_80 rfl ?_
        refine V_lload dX7_divideByJoins_82 rfl ?_
        refine V_lmul dX7_divideByJoins_84 ?_
        refine V_lload dX7_divideByJoins_85 rfl ?_
        refine V_lload dX7_divideByJoins_87 rfl ?_
        refine V_lmul dX7_divideByJoins_89 ?_
        refine V_lsub dX7_divideByJoins_90 ?_
        obtain ⟨x7, qx7, hF⟩ := bnd_g hF
        refine B_lstore qx7 dX7_divideByJoins_91 (by decide) ?_
        refine V_lload dX7_divideByJoins_93 rfl ?_
        refine V_lconst (v := 0) dX7_divideByJoins_95 (by decide) ?_
        refine V_lcmp dX7_divideByJoins_96 ?_
        refine V_if_ne (tgt := 119) dX7_divideByJoins_97 (by decide) (fun c => ?_) (fun c => ?_)
        · replace hF := (if_neg c).symm.trans hF
          refine V_iconst (v := 0) dX7_divideByJoins_119 (by decide) ?_
          refine V_istore dX7_divideByJoins_120 (by decide) ?_
          exact V_lv' (w_X7_divideByJoins_L122 ht hp1 hp3 hp4 G hd ih f _ _ _ _ hF) (v_all_c rfl (v_all_c rfl (v_all_c rfl (v_all_c rfl (v_all_c rfl (v_all_c rfl (v_all_c rfl (v_all_c rfl (v_all_c rfl v_all_n)))))))))
        · replace hF := (if_pos c).symm.trans hF
          refine V_aload_n dX7_divideByJoins_100 rfl ?_
          refine X_gI G dX7_divideByJoins_101 fX7_18 ht.1 rfl ?_
          refine V_iconst (v := -1) dX7_divideByJoins_104 (by decide) ?_
          refine V_icmp_ne (tgt := 119) dX7_divideByJoins_105 (by decide) (fun c => ?_) (fun c => ?_)
          · replace hF := (if_neg c).symm.trans hF
            refine V_iconst (v := 0) dX7_divideByJoins_119 (by decide) ?_
            refine V_istore dX7_divideByJoins_120 (by decide) ?_
            exact V_lv' (w_X7_divideByJoins_L122 ht hp1 hp3 hp4 G hd ih f _ _ _ _ hF) (v_all_c rfl (v_all_c rfl (v_all_c rfl (v_all_c rfl (v_all_c rfl (v_all_c rfl (v_all_c rfl (v_all_c rfl (v_all_c rfl v_all_n)))))))))
          · replace hF := (if_pos c).symm.trans hF
            refine V_aload_n dX7_divideByJoins_108 rfl ?_
            refine V_aload_n dX7_divideByJoins_109 rfl ?_
            refine V_iload_n dX7_divideByJoins_110 rfl ?_
            refine V_iload dX7_divideByJoins_111 rfl ?_
            obtain ⟨y8, hc, hF⟩ := bd hF
            refine V_callV G dX7_divideByJoins_113 kX7_58 (wd_at hp1.1) ⟨by decide, rfl⟩ (s_X3_sideOf hp1 G hc (by omega)) rfl (Nat.le_of_ble_eq_true rfl) (fun _ _ _ q => q.elim) ?_
            rintro _ _ ⟨rfl, rfl⟩
            refine X_pI G dX7_divideByJoins_116 gX7_18 ht.1 rfl rfl rfl ?_
            obtain ⟨S9, qS9, hF⟩ := bnd_g hF
            refine V_eqS qS9 ?_
            refine V_iconst (v := 0) dX7_divideByJoins_119 (by decide) ?_
            refine V_istore dX7_divideByJoins_120 (by decide) ?_
            exact V_lv' (w_X7_divideByJoins_L122 ht hp1 hp3 hp4 G hd ih f _ _ _ _ hF) (v_all_c rfl (v_all_c rfl (v_all_c rfl (v_all_c rfl (v_all_c rfl (v_all_c rfl (v_all_c rfl (v_all_c rfl (v_all_c rfl v_all_n)))))))))
set_option maxRecDepth 100000 in
set_option maxHeartbeats 4000000 in
theorem w_X7_divideByJoins_L3 {l : Launch} {s0 : State} {D : va_G} {a0 : Array Value} {sh : List Sh} {f : Nat} {t : Nat} {p1 : Nat} {p2 : Int32} {p3 : Nat} {p4 : Nat} {p5 : Int32} (ht : isX7 sh t) (hp1 : isX3 sh p1) (hp3 : isX0 sh p3) (hp4 : isX1 sh p4) {r : St} {d : Nat} (G : GC l s0 D a0) (hd : 2 ≤ d + 1) : ∀ (n : Nat) (S : St) (l6 : Int32), F_X7_divideByJoins_L3 sh f t p1 p2 p3 p4 p5 n S l6 = some r → V l s0 D (d + 1) 0 0 mX7_divideByJoins (fun v h => v = none ∧ h = wd s0.heap.size sh r) v_noX 3 [(0, .ref (s0.heap.size + t)), (1, .ref (s0.heap.size + p1)), (2, .int p2), (3, .ref (s0.heap.size + p3)), (4, .ref (s0.heap.size + p4)), (5, .int p5), (6, .int l6)] [] (wd s0.heap.size sh S) := by
  intro n
  induction n with
  | zero => intro S l6 hF; cases hF
  | succ n ih =>
    intro S l6 hF
    unfold F_X7_divideByJoins_L3 at hF
    refine V_iload dX7_divideByJoins_3 rfl ?_
    refine V_iconst (v := 4) dX7_divideByJoins_5 (by decide) ?_
    refine V_icmp_ge (tgt := 29) dX7_divideByJoins_6 (by decide) (fun c => ?_) (fun c => ?_)
    · replace hF := (if_pos c).symm.trans hF
      refine V_iconst (v := 0) dX7_divideByJoins_29 (by decide) ?_
      refine V_istore dX7_divideByJoins_30 (by decide) ?_
      exact V_lv' (w_X7_divideByJoins_L32 ht hp1 hp3 hp4 G hd f _ _ hF) (v_all_c rfl (v_all_c rfl (v_all_c rfl (v_all_c rfl (v_all_c rfl (v_all_c rfl (v_all_c rfl v_all_n)))))))
    · replace hF := (if_neg c).symm.trans hF
      refine V_aload_n dX7_divideByJoins_9 rfl ?_
      refine X_gC G dX7_divideByJoins_10 fX7_15 ht.1 rfl ?_
      refine V_iload dX7_divideByJoins_13 rfl ?_
      refine V_aload_n dX7_divideByJoins_15 rfl ?_
      refine X_gC G dX7_divideByJoins_16 fX7_65 hp1.1 rfl ?_
      refine V_iload_n dX7_divideByJoins_19 rfl ?_
      obtain ⟨hz, hF⟩ := gv_out hF
      refine X_iald dX7_divideByJoins_20 hp1.2.2.1 hz ?_
      refine V_i2l dX7_divideByJoins_21 ?_
      obtain ⟨hz, hF⟩ := gv_out hF
      refine X_last dX7_divideByJoins_22 ht.2.2 hz ?_
      obtain ⟨S1, qS1, hF⟩ := bnd_g hF
      refine V_eqS qS1 ?_
      obtain ⟨x2, qx2, hF⟩ := bnd_g hF
      refine B_iinc (v := 1) qx2 dX7_divideByJoins_23 rfl (by decide) (by decide) ?_
      refine V_goto (tgt := 3) dX7_divideByJoins_26 (by decide) ?_
      exact V_lv' (ih _ _ hF) (v_all_c rfl (v_all_c rfl (v_all_c rfl (v_all_c rfl (v_all_c rfl (v_all_c rfl (v_all_c rfl v_all_n)))))))
set_option maxRecDepth 100000 in
set_option maxHeartbeats 4000000 in
theorem s_X7_divideByJoins {l : Launch} {s0 : State} {D : va_G} {a0 : Array Value} {sh : List Sh} {f : Nat} {S : St} {t : Nat} {p1 : Nat} {p2 : Int32} {p3 : Nat} {p4 : Nat} {p5 : Int32} (ht : isX7 sh t) (hp1 : isX3 sh p1) (hp3 : isX0 sh p3) (hp4 : isX1 sh p4) {r : St} (G : GC l s0 D a0) (hF : F_X7_divideByJoins sh f S t p1 p2 p3 p4 p5 = some r) {d : Nat} (hd : 2 ≤ d) : Sp l s0 D d 0 0 mX7_divideByJoins (fun v h => v = none ∧ h = wd s0.heap.size sh r) v_noX [.ref (s0.heap.size + t), .ref (s0.heap.size + p1), .int p2, .ref (s0.heap.size + p3), .ref (s0.heap.size + p4), .int p5] (wd s0.heap.size sh S) := by
  obtain ⟨d, rfl⟩ : ∃ e, d = e + 1 := ⟨d - 1, by omega⟩
  refine Sp.of (by decide +kernel) rfl (Nat.le_of_ble_eq_true rfl) ?_
  unfold F_X7_divideByJoins at hF
  refine V_iconst (v := 0) dX7_divideByJoins_0 (by decide) ?_
  refine V_istore dX7_divideByJoins_1 (by decide) ?_
  exact V_lv' (w_X7_divideByJoins_L3 ht hp1 hp3 hp4 G hd f _ _ hF) (v_all_c rfl (v_all_c rfl (v_all_c rfl (v_all_c rfl (v_all_c rfl (v_all_c rfl (v_all_c rfl v_all_n)))))))
set_option maxRecDepth 100000 in
set_option maxHeartbeats 4000000 in
theorem w_X7_above_L51 {l : Launch} {s0 : State} {D : va_G} {a0 : Array Value} {sh : List Sh} {f : Nat} {S : St} {p0 : Nat} {p1 : Int32} {p2 n2 : Nat} (hp0 : isX3 sh p0) (hp2 : sh[p2]? = some (.inl (.int, n2))) {r : Int64} {d : Nat} (G : GC l s0 D a0) (hd : 2 ≤ d + 1) {k18 : Int32 → Int64 → Int32 → Option (Int64)} (hk18 : ∀ (l3 : Int32) (l4 : Int64) (l6 : Int32), k18 l3 l4 l6 = some r → V l s0 D (d + 1) 0 0 mX7_above (fun v h => v = some (.long r) ∧ h = wd s0.heap.size sh S) v_noX 18 [(0, .ref (s0.heap.size + p0)), (2, .ref (s0.heap.size + p2)), (3, .int l3), (4, .long l4), (6, .int l6)] [] (wd s0.heap.size sh S)) : ∀ (n : Nat) (l3 : Int32) (l4 : Int64) (l6 : Int32) (l7 : Int32) (l8 : Int32), F_X7_above_L51 sh f S p0 p1 p2 n2 k18 n l3 l4 l6 l7 l8 = some r → V l s0 D (d + 1) 0 0 mX7_above (fun v h => v = some (.long r) ∧ h = wd s0.heap.size sh S) v_noX 51 [(0, .ref (s0.heap.size + p0)), (2, .ref (s0.heap.size + p2)), (3, .int l3), (4, .long l4), (6, .int l6), (7, .int l7), (8, .int l8)] [] (wd s0.heap.size sh S) := by
  intro n
  induction n with
  | zero => intro l3 l4 l6 l7 l8 hF; cases hF
  | succ n ih =>
    intro l3 l4 l6 l7 l8 hF
    unfold F_X7_above_L51 at hF
    refine V_iload dX7_above_51 rfl ?_
    refine V_iload dX7_above_53 rfl ?_
    refine V_icmp_ge (tgt := 74) dX7_above_55 (by decide) (fun c => ?_) (fun c => ?_)
    · replace hF := (if_pos c).symm.trans hF
      obtain ⟨x1, qx1, hF⟩ := bnd_g hF
      refine B_iinc (v := 1) qx1 dX7_above_74 rfl (by decide) (by decide) ?_
      refine V_goto (tgt := 18) dX7_above_77 (by decide) ?_
      exact V_lv' (hk18 _ _ _ hF) (v_all_c rfl (v_all_c rfl (v_all_c rfl (v_all_c rfl (v_all_c rfl v_all_n)))))
    · replace hF := (if_neg c).symm.trans hF
      refine V_lload dX7_above_58 rfl ?_
      refine V_aload_n dX7_above_60 rfl ?_
      refine V_iload dX7_above_61 rfl ?_
      obtain ⟨hz, hF⟩ := gv_out hF
      refine X_iald dX7_above_63 hp2 hz ?_
      refine V_i2l dX7_above_64 ?_
      refine V_lmul dX7_above_65 ?_
      obtain ⟨x2, qx2, hF⟩ := bnd_g hF
      refine B_lstore qx2 dX7_above_66 (by decide) ?_
      obtain ⟨x3, qx3, hF⟩ := bnd_g hF
      refine B_iinc (v := 1) qx3 dX7_above_68 rfl (by decide) (by decide) ?_
      refine V_goto (tgt := 51) dX7_above_71 (by decide) ?_
      exact V_lv' (ih _ _ _ _ _ hF) (v_all_c rfl (v_all_c rfl (v_all_c rfl (v_all_c rfl (v_all_c rfl (v_all_c rfl (v_all_c rfl v_all_n)))))))
set_option maxRecDepth 100000 in
set_option maxHeartbeats 4000000 in
theorem w_X7_above_L18 {l : Launch} {s0 : State} {D : va_G} {a0 : Array Value} {sh : List Sh} {f : Nat} {S : St} {p0 : Nat} {p1 : Int32} {p2 n2 : Nat} (hp0 : isX3 sh p0) (hp2 : sh[p2]? = some (.inl (.int, n2))) {r : Int64} {d : Nat} (G : GC l s0 D a0) (hd : 2 ≤ d + 1) : ∀ (n : Nat) (l3 : Int32) (l4 : Int64) (l6 : Int32), F_X7_above_L18 sh f S p0 p1 p2 n2 n l3 l4 l6 = some r → V l s0 D (d + 1) 0 0 mX7_above (fun v h => v = some (.long r) ∧ h = wd s0.heap.size sh S) v_noX 18 [(0, .ref (s0.heap.size + p0)), (2, .ref (s0.heap.size + p2)), (3, .int l3), (4, .long l4), (6, .int l6)] [] (wd s0.heap.size sh S) := by
  intro n
  induction n with
  | zero => intro l3 l4 l6 hF; cases hF
  | succ n ih =>
    intro l3 l4 l6 hF
    unfold F_X7_above_L18 at hF
    refine V_iload dX7_above_18 rfl ?_
    refine V_iconst (v := 3) dX7_above_20 (by decide) ?_
    refine V_icmp_ge (tgt := 80) dX7_above_21 (by decide) (fun c => ?_) (fun c => ?_)
    · replace hF := (if_pos c).symm.trans hF
      refine V_lload dX7_above_80 rfl ?_
      cases hF
      exact V_lreturn dX7_above_82 rfl ⟨rfl, rfl⟩
    · replace hF := (if_neg c).symm.trans hF
      refine V_iload dX7_above_24 rfl ?_
      refine V_aload_n dX7_above_26 rfl ?_
      refine X_alen dX7_above_27 hp2 ?_
      refine V_icmp_ge (tgt := 80) dX7_above_28 (by decide) (fun c => ?_) (fun c => ?_)
      · replace hF := (if_pos c).symm.trans hF
        refine V_lload dX7_above_80 rfl ?_
        cases hF
        exact V_lreturn dX7_above_82 rfl ⟨rfl, rfl⟩
      · replace hF := (if_neg c).symm.trans hF
        refine V_aload_n dX7_above_31 rfl ?_
        refine X_gC G dX7_above_32 fX7_93 hp0.1 rfl ?_
        refine V_iload_n dX7_above_35 rfl ?_
        obtain ⟨hz, hF⟩ := gv_out hF
        refine X_iald dX7_above_36 hp0.2.2.2.2.2.2.2.2.2.2.2.2.2.2.1 hz ?_
        refine V_iconst (v := 2) dX7_above_37 (by decide) ?_
        refine V_iconst (v := 2) dX7_above_38 (by decide) ?_
        refine V_iload dX7_above_39 rfl ?_
        refine V_isub dX7_above_41 ?_
        refine V_imul dX7_above_42 ?_
        refine V_ishr dX7_above_43 ?_
        refine V_iconst (v := 3) dX7_above_44 (by decide) ?_
        refine V_iand dX7_above_45 ?_
        obtain ⟨x1, qx1, hF⟩ := bnd_g hF
        refine B_istore qx1 dX7_above_46 (by decide) ?_
        refine V_iconst (v := 0) dX7_above_48 (by decide) ?_
        refine V_istore dX7_above_49 (by decide) ?_
        exact V_lv' (w_X7_above_L51 hp0 hp2 G hd ih f _ _ _ _ _ hF) (v_all_c rfl (v_all_c rfl (v_all_c rfl (v_all_c rfl (v_all_c rfl (v_all_c rfl (v_all_c rfl v_all_n)))))))
set_option maxRecDepth 100000 in
set_option maxHeartbeats 4000000 in
theorem s_X7_above {l : Launch} {s0 : State} {D : va_G} {a0 : Array Value} {sh : List Sh} {f : Nat} {S : St} {p0 : Nat} {p1 : Int32} {p2 n2 : Nat} (hp0 : isX3 sh p0) (hp2 : sh[p2]? = some (.inl (.int, n2))) {r : Int64} (G : GC l s0 D a0) (hF : F_X7_above sh f S p0 p1 p2 n2 = some r) {d : Nat} (hd : 2 ≤ d) : Sp l s0 D d 0 0 mX7_above (fun v h => v = some (.long r) ∧ h = wd s0.heap.size sh S) v_noX [.ref (s0.heap.size + p0), .int p1, .ref (s0.heap.size + p2)] (wd s0.heap.size sh S) := by
  obtain ⟨d, rfl⟩ : ∃ e, d = e + 1 := ⟨d - 1, by omega⟩
  refine Sp.of (by decide +kernel) rfl (Nat.le_of_ble_eq_true rfl) ?_
  unfold F_X7_above at hF
  refine V_aload_n dX7_above_0 rfl ?_
  refine V_iload_n dX7_above_1 rfl ?_
  obtain ⟨y1, hc, hF⟩ := bd hF
  refine V_callV G dX7_above_2 kX7_87 (wd_at hp0.1) ⟨by decide, rfl⟩ (s_X3_groupOf hp0 G hc (by omega)) rfl (Nat.le_of_ble_eq_true rfl) (fun _ _ _ q => q.elim) ?_
  rintro _ _ ⟨rfl, rfl⟩
  refine V_istore_n dX7_above_5 (by decide) ?_
  refine V_aload_n dX7_above_6 rfl ?_
  refine X_gC G dX7_above_7 fX7_90 hp0.1 rfl ?_
  refine V_iload_n dX7_above_10 rfl ?_
  obtain ⟨hz, hF⟩ := gv_out hF
  refine X_iald dX7_above_11 hp0.2.2.2.2.2.2.2.2.2.2.2.2.2.1 hz ?_
  refine V_i2l dX7_above_12 ?_
  obtain ⟨x2, qx2, hF⟩ := bnd_g hF
  refine B_lstore qx2 dX7_above_13 (by decide) ?_
  refine V_iconst (v := 0) dX7_above_15 (by decide) ?_
  refine V_istore dX7_above_16 (by decide) ?_
  exact V_lv' (w_X7_above_L18 hp0 hp2 G hd f _ _ _ hF) (v_all_c rfl (v_all_c rfl (v_all_c rfl (v_all_c rfl (v_all_c rfl v_all_n)))))
set_option maxRecDepth 100000 in
set_option maxHeartbeats 4000000 in
theorem w_X7_inverse_L25 {l : Launch} {s0 : State} {D : va_G} {a0 : Array Value} {sh : List Sh} {f : Nat} {S : St} {p0 : Int64} {p2 : Int64} {r : Int64} {d : Nat} (G : GC l s0 D a0) (hd : 1 ≤ d + 1) : ∀ (n : Nat) (l4 : Int64) (l6 : Int64) (l8 : Int64), F_X7_inverse_L25 sh f S p0 p2 n l4 l6 l8 = some r → V l s0 D (d + 1) 0 0 mX7_inverse (fun v h => v = some (.long r) ∧ h = wd s0.heap.size sh S) v_noX 25 [(2, .long p2), (4, .long l4), (6, .long l6), (8, .long l8)] [] (wd s0.heap.size sh S) := by
  intro n
  induction n with
  | zero => intro l4 l6 l8 hF; cases hF
  | succ n ih =>
    intro l4 l6 l8 hF
    unfold F_X7_inverse_L25 at hF
    refine V_lload dX7_inverse_25 rfl ?_
    refine V_lconst (v := 0) dX7_inverse_27 (by decide) ?_
    refine V_lcmp dX7_inverse_28 ?_
    refine V_if_le (tgt := 68) dX7_inverse_29 (by decide) (fun c => ?_) (fun c => ?_)
    · replace hF := (if_pos c).symm.trans hF
      refine V_lload dX7_inverse_68 rfl ?_
      cases hF
      exact V_lreturn dX7_inverse_70 rfl ⟨rfl, rfl⟩
    · replace hF := (if_neg c).symm.trans hF
      refine V_lload dX7_inverse_32 rfl ?_
      refine V_lconst (v := 1) dX7_inverse_34 (by decide) ?_
      refine V_land dX7_inverse_35 ?_
      refine V_lconst (v := 0) dX7_inverse_36 (by decide) ?_
      refine V_lcmp dX7_inverse_37 ?_
      refine V_if_eq (tgt := 50) dX7_inverse_38 (by decide) (fun c => ?_) (fun c => ?_)
      · replace hF := (if_pos c).symm.trans hF
        refine V_lload dX7_inverse_50 rfl ?_
        refine V_lload dX7_inverse_52 rfl ?_
        refine V_lmul dX7_inverse_54 ?_
        refine V_lload_n dX7_inverse_55 rfl ?_
        obtain ⟨hz, hF⟩ := gv_out hF
        refine V_lrem dX7_inverse_56 hz ?_
        obtain ⟨x1, qx1, hF⟩ := bnd_g hF
        refine B_lstore qx1 dX7_inverse_57 (by decide) ?_
        refine V_lload dX7_inverse_59 rfl ?_
        refine V_iconst (v := 1) dX7_inverse_61 (by decide) ?_
        refine V_lshr dX7_inverse_62 ?_
        obtain ⟨x2, qx2, hF⟩ := bnd_g hF
        refine B_lstore qx2 dX7_inverse_63 (by decide) ?_
        refine V_goto (tgt := 25) dX7_inverse_65 (by decide) ?_
        exact V_lv' (ih _ _ _ hF) (v_all_c rfl (v_all_c rfl (v_all_c rfl (v_all_c rfl v_all_n))))
      · replace hF := (if_neg c).symm.trans hF
        refine V_lload dX7_inverse_41 rfl ?_
        refine V_lload dX7_inverse_43 rfl ?_
        refine V_lmul dX7_inverse_45 ?_
        refine V_lload_n dX7_inverse_46 rfl ?_
        obtain ⟨hz, hF⟩ := gv_out hF
        refine V_lrem dX7_inverse_47 hz ?_
        obtain ⟨x3, qx3, hF⟩ := bnd_g hF
        refine B_lstore qx3 dX7_inverse_48 (by decide) ?_
        refine V_lload dX7_inverse_50 rfl ?_
        refine V_lload dX7_inverse_52 rfl ?_
        refine V_lmul dX7_inverse_54 ?_
        refine V_lload_n dX7_inverse_55 rfl ?_
        obtain ⟨hz, hF⟩ := gv_out hF
        refine V_lrem dX7_inverse_56 hz ?_
        obtain ⟨x4, qx4, hF⟩ := bnd_g hF
        refine B_lstore qx4 dX7_inverse_57 (by decide) ?_
        refine V_lload dX7_inverse_59 rfl ?_
        refine V_iconst (v := 1) dX7_inverse_61 (by decide) ?_
        refine V_lshr dX7_inverse_62 ?_
        obtain ⟨x5, qx5, hF⟩ := bnd_g hF
        refine B_lstore qx5 dX7_inverse_63 (by decide) ?_
        refine V_goto (tgt := 25) dX7_inverse_65 (by decide) ?_
        exact V_lv' (ih _ _ _ hF) (v_all_c rfl (v_all_c rfl (v_all_c rfl (v_all_c rfl v_all_n))))
set_option maxRecDepth 100000 in
set_option maxHeartbeats 4000000 in
theorem s_X7_inverse {l : Launch} {s0 : State} {D : va_G} {a0 : Array Value} {sh : List Sh} {f : Nat} {S : St} {p0 : Int64} {p2 : Int64} {r : Int64} (G : GC l s0 D a0) (hF : F_X7_inverse sh f S p0 p2 = some r) {d : Nat} (hd : 1 ≤ d) : Sp l s0 D d 0 0 mX7_inverse (fun v h => v = some (.long r) ∧ h = wd s0.heap.size sh S) v_noX [.long p0, .long p2] (wd s0.heap.size sh S) := by
  obtain ⟨d, rfl⟩ : ∃ e, d = e + 1 := ⟨d - 1, by omega⟩
  refine Sp.of (by decide +kernel) rfl (Nat.le_of_ble_eq_true rfl) ?_
  unfold F_X7_inverse at hF
  refine V_lload_n dX7_inverse_0 rfl ?_
  refine V_ldc2 dX7_inverse_1 qX7_99 ?_
  refine V_lcmp dX7_inverse_4 ?_
  refine V_if_ge (tgt := 10) dX7_inverse_5 (by decide) (fun c => ?_) (fun c => ?_)
  · replace hF := (if_pos c).symm.trans hF
    refine V_lconst (v := 1) dX7_inverse_10 (by decide) ?_
    refine V_lstore dX7_inverse_11 (by decide) ?_
    refine V_lload_n dX7_inverse_13 rfl ?_
    refine V_lload_n dX7_inverse_14 rfl ?_
    obtain ⟨hz, hF⟩ := gv_out hF
    refine V_lrem dX7_inverse_15 hz ?_
    obtain ⟨x1, qx1, hF⟩ := bnd_g hF
    refine B_lstore qx1 dX7_inverse_16 (by decide) ?_
    refine V_lload_n dX7_inverse_18 rfl ?_
    refine V_ldc2 dX7_inverse_19 qX7_99 ?_
    refine V_lsub dX7_inverse_22 ?_
    obtain ⟨x2, qx2, hF⟩ := bnd_g hF
    refine B_lstore qx2 dX7_inverse_23 (by decide) ?_
    exact V_lv' (w_X7_inverse_L25  G hd f _ _ _ hF) (v_all_c rfl (v_all_c rfl (v_all_c rfl (v_all_c rfl v_all_n))))
  · replace hF := (if_neg c).symm.trans hF
    refine V_lconst (v := 0) dX7_inverse_8 (by decide) ?_
    cases hF
    exact V_lreturn dX7_inverse_9 rfl ⟨rfl, rfl⟩

