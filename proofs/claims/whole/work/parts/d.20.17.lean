set_option maxRecDepth 100000 in
set_option maxHeartbeats 4000000 in
theorem s_X8_at {l : Launch} {s0 : State} {D : va_G} {a0 : Array Value} {sh : List Sh} {f : Nat} {S : St} {t : Nat} {p1 : Int32} (ht : isX8 sh t) {r : Int32 × St} (G : GC l s0 D a0) (hF : F_X8_at sh f S t p1 = some r) {d : Nat} (hd : 18 ≤ d) : Sp l s0 D d 0 0 mX8_at (fun v h => v = some (.int r.1) ∧ h = wd s0.heap.size sh r.2) v_noX [.ref (s0.heap.size + t), .int p1] (wd s0.heap.size sh S) := by
  obtain ⟨d, rfl⟩ : ∃ e, d = e + 1 := ⟨d - 1, by omega⟩
  refine Sp.of (by decide +kernel) rfl (Nat.le_of_ble_eq_true rfl) ?_
  unfold F_X8_at at hF
  refine V_aload_n dX8_at_0 rfl ?_
  refine V_iload_n dX8_at_1 rfl ?_
  obtain ⟨y1, hc, hF⟩ := bd hF
  refine V_callV G dX8_at_2 kX8_136 (wd_at ht.1) ⟨by decide, rfl⟩ (s_X8_orderRefusal ht G hc (by omega)) rfl (Nat.le_of_ble_eq_true rfl) (fun _ _ _ q => q.elim) ?_
  rintro _ _ ⟨rfl, rfl⟩
  refine V_istore_n dX8_at_5 (by decide) ?_
  refine V_iload_n dX8_at_6 rfl ?_
  refine V_if_ne (tgt := 18) dX8_at_7 (by decide) (fun c => ?_) (fun c => ?_)
  · replace hF := (if_neg c).symm.trans hF
    refine V_aload_n dX8_at_18 rfl ?_
    refine V_iload_n dX8_at_19 rfl ?_
    obtain ⟨y2, hc, hF⟩ := bd hF
    refine V_callV G dX8_at_20 kX8_223 (wd_at ht.1) ⟨by decide, rfl⟩ (s_X8_allowed ht G hc (by omega)) rfl (Nat.le_of_ble_eq_true rfl) (fun _ _ _ q => q.elim) ?_
    rintro _ _ ⟨rfl, rfl⟩
    obtain ⟨hz, hF⟩ := gv_out hF
    cases hF
    exact V_ireturn dX8_at_23 rfl (nb_n hz) ⟨rfl, rfl⟩
  · replace hF := (if_pos c).symm.trans hF
    refine V_aload_n dX8_at_10 rfl ?_
    refine V_iload_n dX8_at_11 rfl ?_
    refine V_iconst (v := 0) dX8_at_12 (by decide) ?_
    refine V_iconst (v := -1) dX8_at_13 (by decide) ?_
    obtain ⟨y3, hc, hF⟩ := bd hF
    refine V_callV G dX8_at_14 kX8_229 (wd_at ht.1) ⟨by decide, rfl⟩ (s_X8_reckonWhole ht G hc (by omega)) rfl (Nat.le_of_ble_eq_true rfl) (fun _ _ _ q => q.elim) ?_
    rintro _ _ ⟨rfl, rfl⟩
    obtain ⟨x4, qx4, hF⟩ := bnd_g hF
    refine B_istore_n qx4 dX8_at_17 (by decide) ?_
    refine V_aload_n dX8_at_18 rfl ?_
    refine V_iload_n dX8_at_19 rfl ?_
    obtain ⟨y5, hc, hF⟩ := bd hF
    refine V_callV G dX8_at_20 kX8_223 (wd_at ht.1) ⟨by decide, rfl⟩ (s_X8_allowed ht G hc (by omega)) rfl (Nat.le_of_ble_eq_true rfl) (fun _ _ _ q => q.elim) ?_
    rintro _ _ ⟨rfl, rfl⟩
    obtain ⟨hz, hF⟩ := gv_out hF
    cases hF
    exact V_ireturn dX8_at_23 rfl (nb_n hz) ⟨rfl, rfl⟩
set_option maxRecDepth 100000 in
set_option maxHeartbeats 4000000 in
theorem s_X8_cutRefusal {l : Launch} {s0 : State} {D : va_G} {a0 : Array Value} {sh : List Sh} {f : Nat} {S : St} {t : Nat} {p1 : Int32} {p2 : Int32} {p3 : Int32} (ht : isX8 sh t) {r : Int32} (G : GC l s0 D a0) (hF : F_X8_cutRefusal sh f S t p1 p2 p3 = some r) {d : Nat} (hd : 3 ≤ d) : Sp l s0 D d 0 0 mX8_cutRefusal (fun v h => v = some (.int r) ∧ h = wd s0.heap.size sh S) v_noX [.ref (s0.heap.size + t), .int p1, .int p2, .int p3] (wd s0.heap.size sh S) := by
  obtain ⟨d, rfl⟩ : ∃ e, d = e + 1 := ⟨d - 1, by omega⟩
  refine Sp.of (by decide +kernel) rfl (Nat.le_of_ble_eq_true rfl) ?_
  unfold F_X8_cutRefusal at hF
  refine V_aload_n dX8_cutRefusal_0 rfl ?_
  refine X_gC G dX8_cutRefusal_1 fX8_33 ht.1 rfl ?_
  refine X_gI G dX8_cutRefusal_4 fX8_222 ht.2.2.2.2.1.1 rfl ?_
  refine V_if_eq (tgt := 32) dX8_cutRefusal_7 (by decide) (fun c => ?_) (fun c => ?_)
  · replace hF := (if_pos c).symm.trans hF
    refine V_iconst (v := 1) dX8_cutRefusal_32 (by decide) ?_
    cases hF
    exact V_ireturn dX8_cutRefusal_33 rfl rfl ⟨rfl, rfl⟩
  · replace hF := (if_neg c).symm.trans hF
    refine V_aload_n dX8_cutRefusal_10 rfl ?_
    refine X_gC G dX8_cutRefusal_11 fX8_33 ht.1 rfl ?_
    refine V_iload_n dX8_cutRefusal_14 rfl ?_
    obtain ⟨y1, hc, hF⟩ := bd hF
    refine V_callV G dX8_cutRefusal_15 kX8_263 (wd_at ht.2.2.2.2.1.1) ⟨by decide, rfl⟩ (s_X1_isSide ht.2.2.2.2.1 G hc (by omega)) rfl (Nat.le_of_ble_eq_true rfl) (fun _ _ _ q => q.elim) ?_
    rintro _ _ ⟨rfl, rfl⟩
    refine V_if_eq (tgt := 32) dX8_cutRefusal_18 (by decide) (fun c => ?_) (fun c => ?_)
    · replace hF := (if_pos c).symm.trans hF
      refine V_iconst (v := 1) dX8_cutRefusal_32 (by decide) ?_
      cases hF
      exact V_ireturn dX8_cutRefusal_33 rfl rfl ⟨rfl, rfl⟩
    · replace hF := (if_neg c).symm.trans hF
      refine V_aload_n dX8_cutRefusal_21 rfl ?_
      obtain ⟨b2, hrb2, hF⟩ := bd hF
      obtain ⟨hb2, hF⟩ := gv_in hF
      replace hb2 := ckX0_ok hb2
      refine X_gR G dX8_cutRefusal_22 fX8_63 ht.1 rfl hrb2 ?_
      refine V_iload_n dX8_cutRefusal_25 rfl ?_
      obtain ⟨y3, hc, hF⟩ := bd hF
      refine V_callV G dX8_cutRefusal_26 kX8_125 (wd_at hb2.1) ⟨by decide, rfl⟩ (s_X0_hasKind hb2 G hc (by omega)) rfl (Nat.le_of_ble_eq_true rfl) (fun _ _ _ q => q.elim) ?_
      rintro _ _ ⟨rfl, rfl⟩
      refine V_if_ne (tgt := 34) dX8_cutRefusal_29 (by decide) (fun c => ?_) (fun c => ?_)
      · replace hF := (if_neg c).symm.trans hF
        refine V_iload_n dX8_cutRefusal_34 rfl ?_
        refine V_iconst (v := 2) dX8_cutRefusal_35 (by decide) ?_
        refine V_icmp_lt (tgt := 44) dX8_cutRefusal_36 (by decide) (fun c => ?_) (fun c => ?_)
        · replace hF := (if_pos c).symm.trans hF
          refine V_iconst (v := 2) dX8_cutRefusal_44 (by decide) ?_
          refine V_goto (tgt := 49) dX8_cutRefusal_45 (by decide) ?_
          cases hF
          exact V_ireturn dX8_cutRefusal_49 rfl rfl ⟨rfl, rfl⟩
        · replace hF := (if_neg c).symm.trans hF
          refine V_iload_n dX8_cutRefusal_39 rfl ?_
          refine V_iconst (v := 3) dX8_cutRefusal_40 (by decide) ?_
          refine V_icmp_le (tgt := 48) dX8_cutRefusal_41 (by decide) (fun c => ?_) (fun c => ?_)
          · replace hF := (if_pos c).symm.trans hF
            refine V_iconst (v := 0) dX8_cutRefusal_48 (by decide) ?_
            cases hF
            exact V_ireturn dX8_cutRefusal_49 rfl rfl ⟨rfl, rfl⟩
          · replace hF := (if_neg c).symm.trans hF
            refine V_iconst (v := 2) dX8_cutRefusal_44 (by decide) ?_
            refine V_goto (tgt := 49) dX8_cutRefusal_45 (by decide) ?_
            cases hF
            exact V_ireturn dX8_cutRefusal_49 rfl rfl ⟨rfl, rfl⟩
      · replace hF := (if_pos c).symm.trans hF
        refine V_iconst (v := 1) dX8_cutRefusal_32 (by decide) ?_
        cases hF
        exact V_ireturn dX8_cutRefusal_33 rfl rfl ⟨rfl, rfl⟩
set_option maxRecDepth 100000 in
set_option maxHeartbeats 4000000 in
theorem w_X8_splitEnds_L46 {l : Launch} {s0 : State} {D : va_G} {a0 : Array Value} {sh : List Sh} {f : Nat} {t : Nat} {p1 : Int32} {p2 : Int32} (ht : isX8 sh t) {r : St} {d : Nat} (G : GC l s0 D a0) (hd : 3 ≤ d + 1) {k16 : St → Int32 → Option (St)} (hk16 : ∀ (S : St) (l3 : Int32), k16 S l3 = some r → V l s0 D (d + 1) 0 0 mX8_splitEnds (fun v h => v = none ∧ h = wd s0.heap.size sh r) v_noX 16 [(0, .ref (s0.heap.size + t)), (1, .int p1), (2, .int p2), (3, .int l3)] [] (wd s0.heap.size sh S)) : ∀ (S : St) (l3 : Int32) (v0 : Nat),isX1 sh v0 → F_X8_splitEnds_L46 sh f t p1 p2 k16 S l3 v0 = some r → V l s0 D (d + 1) 0 0 mX8_splitEnds (fun v h => v = none ∧ h = wd s0.heap.size sh r) v_noX 46 [(0, .ref (s0.heap.size + t)), (1, .int p1), (2, .int p2), (3, .int l3)] [.ref (s0.heap.size + v0)] (wd s0.heap.size sh S) := by
  intro S l3 v0 hv0 hF
  unfold F_X8_splitEnds_L46 at hF
  refine V_astore dX8_splitEnds_46 (by decide) ?_
  refine V_aload dX8_splitEnds_48 rfl ?_
  refine V_aload_n dX8_splitEnds_50 rfl ?_
  refine X_gC G dX8_splitEnds_51 fX8_33 ht.1 rfl ?_
  refine X_gC G dX8_splitEnds_54 fX8_319 ht.2.2.2.2.1.1 rfl ?_
  refine V_iload_n dX8_splitEnds_57 rfl ?_
  obtain ⟨hz, hF⟩ := gv_out hF
  refine X_iald dX8_splitEnds_58 ht.2.2.2.2.1.2.1 hz ?_
  refine V_aload_n dX8_splitEnds_59 rfl ?_
  refine X_gC G dX8_splitEnds_60 fX8_33 ht.1 rfl ?_
  refine X_gC G dX8_splitEnds_63 fX8_226 ht.2.2.2.2.1.1 rfl ?_
  refine V_iload_n dX8_splitEnds_66 rfl ?_
  obtain ⟨hz, hF⟩ := gv_out hF
  refine X_iald dX8_splitEnds_67 ht.2.2.2.2.1.2.2 hz ?_
  obtain ⟨y1, hc, hF⟩ := bd hF
  refine V_callV G dX8_splitEnds_68 kX8_132 (wd_at hv0.1) ⟨by decide, rfl⟩ (s_X1_add hv0 G hc (by omega)) rfl (Nat.le_of_ble_eq_true rfl) (fun _ _ _ q => q.elim) ?_
  rintro _ _ ⟨rfl, rfl⟩
  obtain ⟨x2, qx2, hF⟩ := bnd_g hF
  refine B_iinc (v := 1) qx2 dX8_splitEnds_71 rfl (by decide) (by decide) ?_
  refine V_goto (tgt := 16) dX8_splitEnds_74 (by decide) ?_
  exact V_lv' (hk16 _ _ hF) (v_all_c rfl (v_all_c rfl (v_all_c rfl (v_all_c rfl v_all_n))))
set_option maxRecDepth 100000 in
set_option maxHeartbeats 4000000 in
theorem w_X8_splitEnds_L16 {l : Launch} {s0 : State} {D : va_G} {a0 : Array Value} {sh : List Sh} {f : Nat} {t : Nat} {p1 : Int32} {p2 : Int32} (ht : isX8 sh t) {r : St} {d : Nat} (G : GC l s0 D a0) (hd : 3 ≤ d + 1) : ∀ (n : Nat) (S : St) (l3 : Int32), F_X8_splitEnds_L16 sh f t p1 p2 n S l3 = some r → V l s0 D (d + 1) 0 0 mX8_splitEnds (fun v h => v = none ∧ h = wd s0.heap.size sh r) v_noX 16 [(0, .ref (s0.heap.size + t)), (1, .int p1), (2, .int p2), (3, .int l3)] [] (wd s0.heap.size sh S) := by
  intro n
  induction n with
  | zero => intro S l3 hF; cases hF
  | succ n ih =>
    intro S l3 hF
    unfold F_X8_splitEnds_L16 at hF
    refine V_iload_n dX8_splitEnds_16 rfl ?_
    refine V_aload_n dX8_splitEnds_17 rfl ?_
    refine X_gC G dX8_splitEnds_18 fX8_33 ht.1 rfl ?_
    refine X_gI G dX8_splitEnds_21 fX8_222 ht.2.2.2.2.1.1 rfl ?_
    refine V_icmp_ge (tgt := 77) dX8_splitEnds_24 (by decide) (fun c => ?_) (fun c => ?_)
    · replace hF := (if_pos c).symm.trans hF
      refine V_aload_n dX8_splitEnds_77 rfl ?_
      refine X_gC G dX8_splitEnds_78 fX8_37 ht.1 rfl ?_
      refine V_iload_n dX8_splitEnds_81 rfl ?_
      refine V_aload_n dX8_splitEnds_82 rfl ?_
      refine X_gC G dX8_splitEnds_83 fX8_37 ht.1 rfl ?_
      obtain ⟨y1, hc, hF⟩ := bd hF
      refine V_callV G dX8_splitEnds_86 kX8_301 (wd_at ht.2.2.2.2.2.1.1) ⟨by decide, rfl⟩ (s_X1_total ht.2.2.2.2.2.1 G hc (by omega)) rfl (Nat.le_of_ble_eq_true rfl) (fun _ _ _ q => q.elim) ?_
      rintro _ _ ⟨rfl, rfl⟩
      refine V_ineg dX8_splitEnds_89 ?_
      obtain ⟨y2, hc, hF⟩ := bd hF
      refine V_callV G dX8_splitEnds_90 kX8_132 (wd_at ht.2.2.2.2.2.1.1) ⟨by decide, rfl⟩ (s_X1_add ht.2.2.2.2.2.1 G hc (by omega)) rfl (Nat.le_of_ble_eq_true rfl) (fun _ _ _ q => q.elim) ?_
      rintro _ _ ⟨rfl, rfl⟩
      refine V_aload_n dX8_splitEnds_93 rfl ?_
      refine X_gC G dX8_splitEnds_94 fX8_40 ht.1 rfl ?_
      refine V_aload_n dX8_splitEnds_97 rfl ?_
      obtain ⟨b3, hrb3, hF⟩ := bd hF
      obtain ⟨hb3, hF⟩ := gv_in hF
      replace hb3 := ckX0_ok hb3
      refine X_gR G dX8_splitEnds_98 fX8_63 ht.1 rfl hrb3 ?_
      refine V_iload_n dX8_splitEnds_101 rfl ?_
      refine V_iconst (v := 0) dX8_splitEnds_102 (by decide) ?_
      obtain ⟨y4, hc, hF⟩ := bd hF
      refine V_callV G dX8_splitEnds_103 kX8_118 (wd_at hb3.1) ⟨by decide, rfl⟩ (s_X0_ofKind hb3 G hc (by omega)) rfl (Nat.le_of_ble_eq_true rfl) (fun _ _ _ q => q.elim) ?_
      rintro _ _ ⟨rfl, rfl⟩
      refine V_aload_n dX8_splitEnds_106 rfl ?_
      refine X_gC G dX8_splitEnds_107 fX8_40 ht.1 rfl ?_
      obtain ⟨y5, hc, hF⟩ := bd hF
      refine V_callV G dX8_splitEnds_110 kX8_301 (wd_at ht.2.2.2.2.2.2.1.1) ⟨by decide, rfl⟩ (s_X1_total ht.2.2.2.2.2.2.1 G hc (by omega)) rfl (Nat.le_of_ble_eq_true rfl) (fun _ _ _ q => q.elim) ?_
      rintro _ _ ⟨rfl, rfl⟩
      refine V_ineg dX8_splitEnds_113 ?_
      obtain ⟨y6, hc, hF⟩ := bd hF
      refine V_callV G dX8_splitEnds_114 kX8_132 (wd_at ht.2.2.2.2.2.2.1.1) ⟨by decide, rfl⟩ (s_X1_add ht.2.2.2.2.2.2.1 G hc (by omega)) rfl (Nat.le_of_ble_eq_true rfl) (fun _ _ _ q => q.elim) ?_
      rintro _ _ ⟨rfl, rfl⟩
      cases hF
      exact V_return dX8_splitEnds_117 rfl ⟨rfl, rfl⟩
    · replace hF := (if_neg c).symm.trans hF
      refine V_iload_n dX8_splitEnds_27 rfl ?_
      refine V_iload_n dX8_splitEnds_28 rfl ?_
      refine V_ishr dX8_splitEnds_29 ?_
      refine V_iconst (v := 1) dX8_splitEnds_30 (by decide) ?_
      refine V_iand dX8_splitEnds_31 ?_
      refine V_if_eq (tgt := 42) dX8_splitEnds_32 (by decide) (fun c => ?_) (fun c => ?_)
      · replace hF := (if_pos c).symm.trans hF
        refine V_aload_n dX8_splitEnds_42 rfl ?_
        refine X_gC G dX8_splitEnds_43 fX8_40 ht.1 rfl ?_
        exact V_lv' (w_X8_splitEnds_L46 ht G hd ih _ _ _ ht.2.2.2.2.2.2.1 hF) (v_all_c rfl (v_all_c rfl (v_all_c rfl (v_all_c rfl v_all_n))))
      · replace hF := (if_neg c).symm.trans hF
        refine V_aload_n dX8_splitEnds_35 rfl ?_
        refine X_gC G dX8_splitEnds_36 fX8_37 ht.1 rfl ?_
        refine V_goto (tgt := 46) dX8_splitEnds_39 (by decide) ?_
        exact V_lv' (w_X8_splitEnds_L46 ht G hd ih _ _ _ ht.2.2.2.2.2.1 hF) (v_all_c rfl (v_all_c rfl (v_all_c rfl (v_all_c rfl v_all_n))))
set_option maxRecDepth 100000 in
set_option maxHeartbeats 4000000 in
theorem s_X8_splitEnds {l : Launch} {s0 : State} {D : va_G} {a0 : Array Value} {sh : List Sh} {f : Nat} {S : St} {t : Nat} {p1 : Int32} {p2 : Int32} (ht : isX8 sh t) {r : St} (G : GC l s0 D a0) (hF : F_X8_splitEnds sh f S t p1 p2 = some r) {d : Nat} (hd : 3 ≤ d) : Sp l s0 D d 0 0 mX8_splitEnds (fun v h => v = none ∧ h = wd s0.heap.size sh r) v_noX [.ref (s0.heap.size + t), .int p1, .int p2] (wd s0.heap.size sh S) := by
  obtain ⟨d, rfl⟩ : ∃ e, d = e + 1 := ⟨d - 1, by omega⟩
  refine Sp.of (by decide +kernel) rfl (Nat.le_of_ble_eq_true rfl) ?_
  unfold F_X8_splitEnds at hF
  refine V_aload_n dX8_splitEnds_0 rfl ?_
  refine X_gC G dX8_splitEnds_1 fX8_37 ht.1 rfl ?_
  obtain ⟨y1, hc, hF⟩ := bd hF
  refine V_callV G dX8_splitEnds_4 kX8_99 (wd_at ht.2.2.2.2.2.1.1) ⟨by decide, rfl⟩ (s_X1_clear ht.2.2.2.2.2.1 G hc (by omega)) rfl (Nat.le_of_ble_eq_true rfl) (fun _ _ _ q => q.elim) ?_
  rintro _ _ ⟨rfl, rfl⟩
  refine V_aload_n dX8_splitEnds_7 rfl ?_
  refine X_gC G dX8_splitEnds_8 fX8_40 ht.1 rfl ?_
  obtain ⟨y2, hc, hF⟩ := bd hF
  refine V_callV G dX8_splitEnds_11 kX8_99 (wd_at ht.2.2.2.2.2.2.1.1) ⟨by decide, rfl⟩ (s_X1_clear ht.2.2.2.2.2.2.1 G hc (by omega)) rfl (Nat.le_of_ble_eq_true rfl) (fun _ _ _ q => q.elim) ?_
  rintro _ _ ⟨rfl, rfl⟩
  refine V_iconst (v := 0) dX8_splitEnds_14 (by decide) ?_
  refine V_istore_n dX8_splitEnds_15 (by decide) ?_
  exact V_lv' (w_X8_splitEnds_L16 ht G hd f _ _ hF) (v_all_c rfl (v_all_c rfl (v_all_c rfl (v_all_c rfl v_all_n))))
set_option maxRecDepth 100000 in
set_option maxHeartbeats 4000000 in
theorem w_X8_reckonParts_L74 {l : Launch} {s0 : State} {D : va_G} {a0 : Array Value} {sh : List Sh} {f : Nat} {t : Nat} {p1 : Int32} {p2 : Int32} {p3 : Int32} (ht : isX8 sh t) {r : Int32 × St} {d : Nat} (G : GC l s0 D a0) (hd : 17 ≤ d + 1) : ∀ (n : Nat) (S : St) (l4 : Int32), F_X8_reckonParts_L74 sh f t p1 p2 p3 n S l4 = some r → V l s0 D (d + 1) 0 0 mX8_reckonParts (fun v h => v = some (.int r.1) ∧ h = wd s0.heap.size sh r.2) v_noX 74 [(0, .ref (s0.heap.size + t)), (3, .int p3), (4, .int l4)] [] (wd s0.heap.size sh S) := by
  intro n
  induction n with
  | zero => intro S l4 hF; cases hF
  | succ n ih =>
    intro S l4 hF
    unfold F_X8_reckonParts_L74 at hF
    refine V_iload dX8_reckonParts_74 rfl ?_
    refine V_iload_n dX8_reckonParts_76 rfl ?_
    refine V_icmp_ge (tgt := 217) dX8_reckonParts_77 (by decide) (fun c => ?_) (fun c => ?_)
    · replace hF := (if_pos c).symm.trans hF
      refine V_aload_n dX8_reckonParts_217 rfl ?_
      obtain ⟨y1, hc, hF⟩ := bd hF
      refine V_callV G dX8_reckonParts_218 kX8_309 (wd_at ht.1) ⟨by decide, rfl⟩ (s_X8_settle ht G hc (by omega)) rfl (Nat.le_of_ble_eq_true rfl) (fun _ _ _ q => q.elim) ?_
      rintro _ _ ⟨rfl, rfl⟩
      cases hF
      exact V_ireturn dX8_reckonParts_221 rfl rfl ⟨rfl, rfl⟩
    · replace hF := (if_neg c).symm.trans hF
      refine V_aload_n dX8_reckonParts_80 rfl ?_
      refine X_gC G dX8_reckonParts_81 fX8_19 ht.1 rfl ?_
      refine V_aload_n dX8_reckonParts_84 rfl ?_
      obtain ⟨b2, hrb2, hF⟩ := bd hF
      obtain ⟨hb2, hF⟩ := gv_in hF
      replace hb2 := ckX0_ok hb2
      refine X_gR G dX8_reckonParts_85 fX8_63 ht.1 rfl hrb2 ?_
      refine V_aload_n dX8_reckonParts_88 rfl ?_
      refine X_gC G dX8_reckonParts_89 fX8_37 ht.1 rfl ?_
      refine V_iload dX8_reckonParts_92 rfl ?_
      obtain ⟨y3, hc, hF⟩ := bd hF
      refine V_callV G dX8_reckonParts_94 kX8_143 (wd_at ht.2.2.1.1) ⟨by decide, rfl⟩ (s_X5_fill ht.2.2.1 hb2 ht.2.2.2.2.2.1 G hc (by omega)) rfl (Nat.le_of_ble_eq_true rfl) (fun _ _ _ q => q.elim) ?_
      rintro _ _ ⟨rfl, rfl⟩
      refine V_if_ne (tgt := 102) dX8_reckonParts_97 (by decide) (fun c => ?_) (fun c => ?_)
      · replace hF := (if_neg c).symm.trans hF
        refine V_aload_n dX8_reckonParts_102 rfl ?_
        refine X_gC G dX8_reckonParts_103 fX8_46 ht.1 rfl ?_
        obtain ⟨y4, hc, hF⟩ := bd hF
        refine V_callV G dX8_reckonParts_106 kX8_304 (wd_at ht.2.2.2.2.2.2.2.1.1) ⟨by decide, rfl⟩ (s_X7_clear ht.2.2.2.2.2.2.2.1 G hc (by omega)) rfl (Nat.le_of_ble_eq_true rfl) (fun _ _ _ q => q.elim) ?_
        rintro _ _ ⟨rfl, rfl⟩
        refine V_aload_n dX8_reckonParts_109 rfl ?_
        refine X_gC G dX8_reckonParts_110 fX8_46 ht.1 rfl ?_
        refine V_aload_n dX8_reckonParts_113 rfl ?_
        refine X_gC G dX8_reckonParts_114 fX8_19 ht.1 rfl ?_
        obtain ⟨b5, hrb5, hF⟩ := bd hF
        obtain ⟨hb5, hF⟩ := gv_in hF
        replace hb5 := ckX3_ok hb5
        refine X_gR G dX8_reckonParts_117 fX8_147 ht.2.2.1.1 rfl hrb5 ?_
        refine V_aload_n dX8_reckonParts_120 rfl ?_
        obtain ⟨b6, hrb6, hF⟩ := bd hF
        obtain ⟨hb6, hF⟩ := gv_in hF
        replace hb6 := ckX0_ok hb6
        refine X_gR G dX8_reckonParts_121 fX8_63 ht.1 rfl hrb6 ?_
        refine V_aload_n dX8_reckonParts_124 rfl ?_
        refine X_gC G dX8_reckonParts_125 fX8_37 ht.1 rfl ?_
        refine V_aload_n dX8_reckonParts_128 rfl ?_
        refine X_gC G dX8_reckonParts_129 fX8_53 ht.1 rfl ?_
        refine V_iconst (v := 0) dX8_reckonParts_132 (by decide) ?_
        refine V_iconst (v := -1) dX8_reckonParts_133 (by decide) ?_
        obtain ⟨y7, hc, hF⟩ := bd hF
        refine V_callV G dX8_reckonParts_134 kX8_305 (wd_at ht.2.2.2.2.2.2.2.1.1) ⟨by decide, rfl⟩ (s_X7_addWorths ht.2.2.2.2.2.2.2.1 hb5 hb6 ht.2.2.2.2.2.1 ht.2.2.2.2.2.2.2.2.2.1 G hc (by omega)) rfl (Nat.le_of_ble_eq_true rfl) (fun _ _ _ q => q.elim) ?_
        rintro _ _ ⟨rfl, rfl⟩
        refine V_aload_n dX8_reckonParts_137 rfl ?_
        refine X_gC G dX8_reckonParts_138 fX8_19 ht.1 rfl ?_
        refine V_aload_n dX8_reckonParts_141 rfl ?_
        obtain ⟨b8, hrb8, hF⟩ := bd hF
        obtain ⟨hb8, hF⟩ := gv_in hF
        replace hb8 := ckX0_ok hb8
        refine X_gR G dX8_reckonParts_142 fX8_63 ht.1 rfl hrb8 ?_
        refine V_aload_n dX8_reckonParts_145 rfl ?_
        refine X_gC G dX8_reckonParts_146 fX8_40 ht.1 rfl ?_
        refine V_iload_n dX8_reckonParts_149 rfl ?_
        refine V_iload dX8_reckonParts_150 rfl ?_
        refine V_isub dX8_reckonParts_152 ?_
        obtain ⟨y9, hc, hF⟩ := bd hF
        refine V_callV G dX8_reckonParts_153 kX8_143 (wd_at ht.2.2.1.1) ⟨by decide, rfl⟩ (s_X5_fill ht.2.2.1 hb8 ht.2.2.2.2.2.2.1 G hc (by omega)) rfl (Nat.le_of_ble_eq_true rfl) (fun _ _ _ q => q.elim) ?_
        rintro _ _ ⟨rfl, rfl⟩
        refine V_if_ne (tgt := 161) dX8_reckonParts_156 (by decide) (fun c => ?_) (fun c => ?_)
        · replace hF := (if_neg c).symm.trans hF
          refine V_aload_n dX8_reckonParts_161 rfl ?_
          refine X_gC G dX8_reckonParts_162 fX8_50 ht.1 rfl ?_
          obtain ⟨y10, hc, hF⟩ := bd hF
          refine V_callV G dX8_reckonParts_165 kX8_304 (wd_at ht.2.2.2.2.2.2.2.2.1.1) ⟨by decide, rfl⟩ (s_X7_clear ht.2.2.2.2.2.2.2.2.1 G hc (by omega)) rfl (Nat.le_of_ble_eq_true rfl) (fun _ _ _ q => q.elim) ?_
          rintro _ _ ⟨rfl, rfl⟩
          refine V_aload_n dX8_reckonParts_168 rfl ?_
          refine X_gC G dX8_reckonParts_169 fX8_50 ht.1 rfl ?_
          refine V_aload_n dX8_reckonParts_172 rfl ?_
          refine X_gC G dX8_reckonParts_173 fX8_19 ht.1 rfl ?_
          obtain ⟨b11, hrb11, hF⟩ := bd hF
          obtain ⟨hb11, hF⟩ := gv_in hF
          replace hb11 := ckX3_ok hb11
          refine X_gR G dX8_reckonParts_176 fX8_147 ht.2.2.1.1 rfl hrb11 ?_
          refine V_aload_n dX8_reckonParts_179 rfl ?_
          obtain ⟨b12, hrb12, hF⟩ := bd hF
          obtain ⟨hb12, hF⟩ := gv_in hF
          replace hb12 := ckX0_ok hb12
          refine X_gR G dX8_reckonParts_180 fX8_63 ht.1 rfl hrb12 ?_
          refine V_aload_n dX8_reckonParts_183 rfl ?_
          refine X_gC G dX8_reckonParts_184 fX8_40 ht.1 rfl ?_
          refine V_aload_n dX8_reckonParts_187 rfl ?_
          refine X_gC G dX8_reckonParts_188 fX8_53 ht.1 rfl ?_
          refine V_iconst (v := 0) dX8_reckonParts_191 (by decide) ?_
          refine V_iconst (v := -1) dX8_reckonParts_192 (by decide) ?_
          obtain ⟨y13, hc, hF⟩ := bd hF
          refine V_callV G dX8_reckonParts_193 kX8_305 (wd_at ht.2.2.2.2.2.2.2.2.1.1) ⟨by decide, rfl⟩ (s_X7_addWorths ht.2.2.2.2.2.2.2.2.1 hb11 hb12 ht.2.2.2.2.2.2.1 ht.2.2.2.2.2.2.2.2.2.1 G hc (by omega)) rfl (Nat.le_of_ble_eq_true rfl) (fun _ _ _ q => q.elim) ?_
          rintro _ _ ⟨rfl, rfl⟩
          refine V_aload_n dX8_reckonParts_196 rfl ?_
          obtain ⟨b14, hrb14, hF⟩ := bd hF
          obtain ⟨hb14, hF⟩ := gv_in hF
          replace hb14 := ckX7_ok hb14
          refine X_gR G dX8_reckonParts_197 fX8_77 ht.1 rfl hrb14 ?_
          refine V_aload_n dX8_reckonParts_200 rfl ?_
          refine X_gC G dX8_reckonParts_201 fX8_46 ht.1 rfl ?_
          refine V_aload_n dX8_reckonParts_204 rfl ?_
          refine X_gC G dX8_reckonParts_205 fX8_50 ht.1 rfl ?_
          obtain ⟨y15, hc, hF⟩ := bd hF
          refine V_callV G dX8_reckonParts_208 kX8_315 (wd_at hb14.1) ⟨by decide, rfl⟩ (s_X7_addProduct hb14 ht.2.2.2.2.2.2.2.1 ht.2.2.2.2.2.2.2.2.1 G hc (by omega)) rfl (Nat.le_of_ble_eq_true rfl) (fun _ _ _ q => q.elim) ?_
          rintro _ _ ⟨rfl, rfl⟩
          obtain ⟨x16, qx16, hF⟩ := bnd_g hF
          refine B_iinc (v := 1) qx16 dX8_reckonParts_211 rfl (by decide) (by decide) ?_
          refine V_goto (tgt := 74) dX8_reckonParts_214 (by decide) ?_
          exact V_lv' (ih _ _ hF) (v_all_c rfl (v_all_c rfl (v_all_c rfl v_all_n)))
        · replace hF := (if_pos c).symm.trans hF
          refine V_iconst (v := 3) dX8_reckonParts_159 (by decide) ?_
          cases hF
          exact V_ireturn dX8_reckonParts_160 rfl rfl ⟨rfl, rfl⟩
      · replace hF := (if_pos c).symm.trans hF
        refine V_iconst (v := 3) dX8_reckonParts_100 (by decide) ?_
        cases hF
        exact V_ireturn dX8_reckonParts_101 rfl rfl ⟨rfl, rfl⟩
set_option maxRecDepth 100000 in
set_option maxHeartbeats 4000000 in
theorem s_X8_reckonParts {l : Launch} {s0 : State} {D : va_G} {a0 : Array Value} {sh : List Sh} {f : Nat} {S : St} {t : Nat} {p1 : Int32} {p2 : Int32} {p3 : Int32} (ht : isX8 sh t) {r : Int32 × St} (G : GC l s0 D a0) (hF : F_X8_reckonParts sh f S t p1 p2 p3 = some r) {d : Nat} (hd : 17 ≤ d) : Sp l s0 D d 0 0 mX8_reckonParts (fun v h => v = some (.int r.1) ∧ h = wd s0.heap.size sh r.2) v_noX [.ref (s0.heap.size + t), .int p1, .int p2, .int p3] (wd s0.heap.size sh S) := by
  obtain ⟨d, rfl⟩ : ∃ e, d = e + 1 := ⟨d - 1, by omega⟩
  refine Sp.of (by decide +kernel) rfl (Nat.le_of_ble_eq_true rfl) ?_
  unfold F_X8_reckonParts at hF
  refine V_aload_n dX8_reckonParts_0 rfl ?_
  refine V_iload_n dX8_reckonParts_1 rfl ?_
  refine V_iload_n dX8_reckonParts_2 rfl ?_
  obtain ⟨y1, hc, hF⟩ := bd hF
  refine V_callV G dX8_reckonParts_3 kX8_312 (wd_at ht.1) ⟨by decide, rfl⟩ (s_X8_splitEnds ht G hc (by omega)) rfl (Nat.le_of_ble_eq_true rfl) (fun _ _ _ q => q.elim) ?_
  rintro _ _ ⟨rfl, rfl⟩
  refine V_aload_n dX8_reckonParts_6 rfl ?_
  refine X_gC G dX8_reckonParts_7 fX8_33 ht.1 rfl ?_
  refine V_aload_n dX8_reckonParts_10 rfl ?_
  obtain ⟨b2, hrb2, hF⟩ := bd hF
  obtain ⟨hb2, hF⟩ := gv_in hF
  replace hb2 := ckX0_ok hb2
  refine X_gR G dX8_reckonParts_11 fX8_63 ht.1 rfl hrb2 ?_
  obtain ⟨y3, hc, hF⟩ := bd hF
  refine V_callV G dX8_reckonParts_14 kX8_139 (wd_at ht.2.2.2.2.1.1) ⟨by decide, rfl⟩ (s_X1_isBalanced ht.2.2.2.2.1 hb2 G hc (by omega)) rfl (Nat.le_of_ble_eq_true rfl) (fun _ _ _ q => q.elim) ?_
  rintro _ _ ⟨rfl, rfl⟩
  refine V_if_eq (tgt := 48) dX8_reckonParts_17 (by decide) (fun c => ?_) (fun c => ?_)
  · replace hF := (if_pos c).symm.trans hF
    refine V_bipush (v := 7) dX8_reckonParts_48 (by decide) ?_
    cases hF
    exact V_ireturn dX8_reckonParts_50 rfl rfl ⟨rfl, rfl⟩
  · replace hF := (if_neg c).symm.trans hF
    refine V_aload_n dX8_reckonParts_20 rfl ?_
    refine X_gC G dX8_reckonParts_21 fX8_37 ht.1 rfl ?_
    refine V_aload_n dX8_reckonParts_24 rfl ?_
    obtain ⟨b4, hrb4, hF⟩ := bd hF
    obtain ⟨hb4, hF⟩ := gv_in hF
    replace hb4 := ckX0_ok hb4
    refine X_gR G dX8_reckonParts_25 fX8_63 ht.1 rfl hrb4 ?_
    obtain ⟨y5, hc, hF⟩ := bd hF
    refine V_callV G dX8_reckonParts_28 kX8_139 (wd_at ht.2.2.2.2.2.1.1) ⟨by decide, rfl⟩ (s_X1_isBalanced ht.2.2.2.2.2.1 hb4 G hc (by omega)) rfl (Nat.le_of_ble_eq_true rfl) (fun _ _ _ q => q.elim) ?_
    rintro _ _ ⟨rfl, rfl⟩
    refine V_if_eq (tgt := 48) dX8_reckonParts_31 (by decide) (fun c => ?_) (fun c => ?_)
    · replace hF := (if_pos c).symm.trans hF
      refine V_bipush (v := 7) dX8_reckonParts_48 (by decide) ?_
      cases hF
      exact V_ireturn dX8_reckonParts_50 rfl rfl ⟨rfl, rfl⟩
    · replace hF := (if_neg c).symm.trans hF
      refine V_aload_n dX8_reckonParts_34 rfl ?_
      refine X_gC G dX8_reckonParts_35 fX8_40 ht.1 rfl ?_
      refine V_aload_n dX8_reckonParts_38 rfl ?_
      obtain ⟨b6, hrb6, hF⟩ := bd hF
      obtain ⟨hb6, hF⟩ := gv_in hF
      replace hb6 := ckX0_ok hb6
      refine X_gR G dX8_reckonParts_39 fX8_63 ht.1 rfl hrb6 ?_
      obtain ⟨y7, hc, hF⟩ := bd hF
      refine V_callV G dX8_reckonParts_42 kX8_139 (wd_at ht.2.2.2.2.2.2.1.1) ⟨by decide, rfl⟩ (s_X1_isBalanced ht.2.2.2.2.2.2.1 hb6 G hc (by omega)) rfl (Nat.le_of_ble_eq_true rfl) (fun _ _ _ q => q.elim) ?_
      rintro _ _ ⟨rfl, rfl⟩
      refine V_if_ne (tgt := 51) dX8_reckonParts_45 (by decide) (fun c => ?_) (fun c => ?_)
      · replace hF := (if_neg c).symm.trans hF
        refine V_aload_n dX8_reckonParts_51 rfl ?_
        refine X_gC G dX8_reckonParts_52 fX8_33 ht.1 rfl ?_
        obtain ⟨y8, hc, hF⟩ := bd hF
        refine V_callV G dX8_reckonParts_55 kX8_301 (wd_at ht.2.2.2.2.1.1) ⟨by decide, rfl⟩ (s_X1_total ht.2.2.2.2.1 G hc (by omega)) rfl (Nat.le_of_ble_eq_true rfl) (fun _ _ _ q => q.elim) ?_
        rintro _ _ ⟨rfl, rfl⟩
        refine V_if_eq (tgt := 64) dX8_reckonParts_58 (by decide) (fun c => ?_) (fun c => ?_)
        · replace hF := (if_pos c).symm.trans hF
          refine V_aload_n dX8_reckonParts_64 rfl ?_
          obtain ⟨b9, hrb9, hF⟩ := bd hF
          obtain ⟨hb9, hF⟩ := gv_in hF
          replace hb9 := ckX7_ok hb9
          refine X_gR G dX8_reckonParts_65 fX8_77 ht.1 rfl hrb9 ?_
          obtain ⟨y10, hc, hF⟩ := bd hF
          refine V_callV G dX8_reckonParts_68 kX8_304 (wd_at hb9.1) ⟨by decide, rfl⟩ (s_X7_clear hb9 G hc (by omega)) rfl (Nat.le_of_ble_eq_true rfl) (fun _ _ _ q => q.elim) ?_
          rintro _ _ ⟨rfl, rfl⟩
          refine V_iconst (v := 1) dX8_reckonParts_71 (by decide) ?_
          refine V_istore dX8_reckonParts_72 (by decide) ?_
          exact V_lv' (w_X8_reckonParts_L74 ht G hd f _ _ hF) (v_all_c rfl (v_all_c rfl (v_all_c rfl v_all_n)))
        · replace hF := (if_neg c).symm.trans hF
          refine V_bipush (v := 8) dX8_reckonParts_61 (by decide) ?_
          cases hF
          exact V_ireturn dX8_reckonParts_63 rfl rfl ⟨rfl, rfl⟩
      · replace hF := (if_pos c).symm.trans hF
        refine V_bipush (v := 7) dX8_reckonParts_48 (by decide) ?_
        cases hF
        exact V_ireturn dX8_reckonParts_50 rfl rfl ⟨rfl, rfl⟩
set_option maxRecDepth 100000 in
set_option maxHeartbeats 4000000 in
theorem s_X8_parted {l : Launch} {s0 : State} {D : va_G} {a0 : Array Value} {sh : List Sh} {f : Nat} {S : St} {t : Nat} {p1 : Int32} {p2 : Int32} {p3 : Int32} (ht : isX8 sh t) {r : Int32 × St} (G : GC l s0 D a0) (hF : F_X8_parted sh f S t p1 p2 p3 = some r) {d : Nat} (hd : 18 ≤ d) : Sp l s0 D d 0 0 mX8_parted (fun v h => v = some (.int r.1) ∧ h = wd s0.heap.size sh r.2) v_noX [.ref (s0.heap.size + t), .int p1, .int p2, .int p3] (wd s0.heap.size sh S) := by
  obtain ⟨d, rfl⟩ : ∃ e, d = e + 1 := ⟨d - 1, by omega⟩
  refine Sp.of (by decide +kernel) rfl (Nat.le_of_ble_eq_true rfl) ?_
  unfold F_X8_parted at hF
  refine V_aload_n dX8_parted_0 rfl ?_
  refine V_iload_n dX8_parted_1 rfl ?_
  refine V_iload_n dX8_parted_2 rfl ?_
  refine V_iload_n dX8_parted_3 rfl ?_
  obtain ⟨y1, hc, hF⟩ := bd hF
  refine V_callV G dX8_parted_4 kX8_232 (wd_at ht.1) ⟨by decide, rfl⟩ (s_X8_cutRefusal ht G hc (by omega)) rfl (Nat.le_of_ble_eq_true rfl) (fun _ _ _ q => q.elim) ?_
  rintro _ _ ⟨rfl, rfl⟩
  refine V_istore dX8_parted_7 (by decide) ?_
  refine V_iload dX8_parted_9 rfl ?_
  refine V_if_ne (tgt := 23) dX8_parted_11 (by decide) (fun c => ?_) (fun c => ?_)
  · replace hF := (if_neg c).symm.trans hF
    refine V_aload_n dX8_parted_23 rfl ?_
    refine V_iload dX8_parted_24 rfl ?_
    obtain ⟨y2, hc, hF⟩ := bd hF
    refine V_callV G dX8_parted_26 kX8_223 (wd_at ht.1) ⟨by decide, rfl⟩ (s_X8_allowed ht G hc (by omega)) rfl (Nat.le_of_ble_eq_true rfl) (fun _ _ _ q => q.elim) ?_
    rintro _ _ ⟨rfl, rfl⟩
    obtain ⟨hz, hF⟩ := gv_out hF
    cases hF
    exact V_ireturn dX8_parted_29 rfl (nb_n hz) ⟨rfl, rfl⟩
  · replace hF := (if_pos c).symm.trans hF
    refine V_aload_n dX8_parted_14 rfl ?_
    refine V_iload_n dX8_parted_15 rfl ?_
    refine V_iload_n dX8_parted_16 rfl ?_
    refine V_iload_n dX8_parted_17 rfl ?_
    obtain ⟨y3, hc, hF⟩ := bd hF
    refine V_callV G dX8_parted_18 kX8_235 (wd_at ht.1) ⟨by decide, rfl⟩ (s_X8_reckonParts ht G hc (by omega)) rfl (Nat.le_of_ble_eq_true rfl) (fun _ _ _ q => q.elim) ?_
    rintro _ _ ⟨rfl, rfl⟩
    obtain ⟨x4, qx4, hF⟩ := bnd_g hF
    refine B_istore qx4 dX8_parted_21 (by decide) ?_
    refine V_aload_n dX8_parted_23 rfl ?_
    refine V_iload dX8_parted_24 rfl ?_
    obtain ⟨y5, hc, hF⟩ := bd hF
    refine V_callV G dX8_parted_26 kX8_223 (wd_at ht.1) ⟨by decide, rfl⟩ (s_X8_allowed ht G hc (by omega)) rfl (Nat.le_of_ble_eq_true rfl) (fun _ _ _ q => q.elim) ?_
    rintro _ _ ⟨rfl, rfl⟩
    obtain ⟨hz, hF⟩ := gv_out hF
    cases hF
    exact V_ireturn dX8_parted_29 rfl (nb_n hz) ⟨rfl, rfl⟩
set_option maxRecDepth 100000 in
set_option maxHeartbeats 4000000 in
theorem s_X8_whole {l : Launch} {s0 : State} {D : va_G} {a0 : Array Value} {sh : List Sh} {f : Nat} {S : St} {t : Nat} {p1 : Int32} {p2 : Int32} {p3 : Int32} (ht : isX8 sh t) {r : Int32 × St} (G : GC l s0 D a0) (hF : F_X8_whole sh f S t p1 p2 p3 = some r) {d : Nat} (hd : 18 ≤ d) : Sp l s0 D d 0 0 mX8_whole (fun v h => v = some (.int r.1) ∧ h = wd s0.heap.size sh r.2) v_noX [.ref (s0.heap.size + t), .int p1, .int p2, .int p3] (wd s0.heap.size sh S) := by
  obtain ⟨d, rfl⟩ : ∃ e, d = e + 1 := ⟨d - 1, by omega⟩
  refine Sp.of (by decide +kernel) rfl (Nat.le_of_ble_eq_true rfl) ?_
  unfold F_X8_whole at hF
  refine V_aload_n dX8_whole_0 rfl ?_
  refine V_iload_n dX8_whole_1 rfl ?_
  refine V_iload_n dX8_whole_2 rfl ?_
  refine V_iload_n dX8_whole_3 rfl ?_
  obtain ⟨y1, hc, hF⟩ := bd hF
  refine V_callV G dX8_whole_4 kX8_232 (wd_at ht.1) ⟨by decide, rfl⟩ (s_X8_cutRefusal ht G hc (by omega)) rfl (Nat.le_of_ble_eq_true rfl) (fun _ _ _ q => q.elim) ?_
  rintro _ _ ⟨rfl, rfl⟩
  refine V_istore dX8_whole_7 (by decide) ?_
  refine V_iload dX8_whole_9 rfl ?_
  refine V_if_ne (tgt := 31) dX8_whole_11 (by decide) (fun c => ?_) (fun c => ?_)
  · replace hF := (if_neg c).symm.trans hF
    refine V_aload_n dX8_whole_31 rfl ?_
    refine V_iload dX8_whole_32 rfl ?_
    obtain ⟨y2, hc, hF⟩ := bd hF
    refine V_callV G dX8_whole_34 kX8_223 (wd_at ht.1) ⟨by decide, rfl⟩ (s_X8_allowed ht G hc (by omega)) rfl (Nat.le_of_ble_eq_true rfl) (fun _ _ _ q => q.elim) ?_
    rintro _ _ ⟨rfl, rfl⟩
    obtain ⟨hz, hF⟩ := gv_out hF
    cases hF
    exact V_ireturn dX8_whole_37 rfl (nb_n hz) ⟨rfl, rfl⟩
  · replace hF := (if_pos c).symm.trans hF
    refine V_aload_n dX8_whole_14 rfl ?_
    refine V_iload_n dX8_whole_15 rfl ?_
    refine V_iload_n dX8_whole_16 rfl ?_
    refine V_aload_n dX8_whole_17 rfl ?_
    obtain ⟨b3, hrb3, hF⟩ := bd hF
    obtain ⟨hb3, hF⟩ := gv_in hF
    replace hb3 := ckX0_ok hb3
    refine X_gR G dX8_whole_18 fX8_63 ht.1 rfl hrb3 ?_
    refine V_iload_n dX8_whole_21 rfl ?_
    refine V_iconst (v := 0) dX8_whole_22 (by decide) ?_
    obtain ⟨y4, hc, hF⟩ := bd hF
    refine V_callV G dX8_whole_23 kX8_118 (wd_at hb3.1) ⟨by decide, rfl⟩ (s_X0_ofKind hb3 G hc (by omega)) rfl (Nat.le_of_ble_eq_true rfl) (fun _ _ _ q => q.elim) ?_
    rintro _ _ ⟨rfl, rfl⟩
    obtain ⟨y5, hc, hF⟩ := bd hF
    refine V_callV G dX8_whole_26 kX8_229 (wd_at ht.1) ⟨by decide, rfl⟩ (s_X8_reckonWhole ht G hc (by omega)) rfl (Nat.le_of_ble_eq_true rfl) (fun _ _ _ q => q.elim) ?_
    rintro _ _ ⟨rfl, rfl⟩
    obtain ⟨x6, qx6, hF⟩ := bnd_g hF
    refine B_istore qx6 dX8_whole_29 (by decide) ?_
    refine V_aload_n dX8_whole_31 rfl ?_
    refine V_iload dX8_whole_32 rfl ?_
    obtain ⟨y7, hc, hF⟩ := bd hF
    refine V_callV G dX8_whole_34 kX8_223 (wd_at ht.1) ⟨by decide, rfl⟩ (s_X8_allowed ht G hc (by omega)) rfl (Nat.le_of_ble_eq_true rfl) (fun _ _ _ q => q.elim) ?_
    rintro _ _ ⟨rfl, rfl⟩
    obtain ⟨hz, hF⟩ := gv_out hF
    cases hF
    exact V_ireturn dX8_whole_37 rfl (nb_n hz) ⟨rfl, rfl⟩
set_option maxRecDepth 100000 in
set_option maxHeartbeats 4000000 in
theorem s_X8_worth {l : Launch} {s0 : State} {D : va_G} {a0 : Array Value} {sh : List Sh} {f : Nat} {S : St} {t : Nat} {p1 : Int32} (ht : isX8 sh t) {r : Int64} (G : GC l s0 D a0) (hF : F_X8_worth sh f S t p1 = some r) {d : Nat} (hd : 1 ≤ d) : Sp l s0 D d 0 0 mX8_worth (fun v h => v = some (.long r) ∧ h = wd s0.heap.size sh S) v_noX [.ref (s0.heap.size + t), .int p1] (wd s0.heap.size sh S) := by
  obtain ⟨d, rfl⟩ : ∃ e, d = e + 1 := ⟨d - 1, by omega⟩
  refine Sp.of (by decide +kernel) rfl (Nat.le_of_ble_eq_true rfl) ?_
  unfold F_X8_worth at hF
  refine V_aload_n dX8_worth_0 rfl ?_
  refine X_gI G dX8_worth_1 fX8_238 ht.1 rfl ?_
  refine V_if_ne (tgt := 11) dX8_worth_4 (by decide) (fun c => ?_) (fun c => ?_)
  · replace hF := (if_neg c).symm.trans hF
    refine V_iload_n dX8_worth_11 rfl ?_
    refine V_if_eq (tgt := 25) dX8_worth_12 (by decide) (fun c => ?_) (fun c => ?_)
    · replace hF := (if_pos c).symm.trans hF
      refine V_aload_n dX8_worth_25 rfl ?_
      obtain ⟨b1, hrb1, hF⟩ := bd hF
      obtain ⟨hb1, hF⟩ := gv_in hF
      replace hb1 := ckX7_ok hb1
      refine X_gR G dX8_worth_26 fX8_74 ht.1 rfl hrb1 ?_
      refine X_gJ G dX8_worth_29 fX8_245 hb1.1 rfl ?_
      cases hF
      exact V_lreturn dX8_worth_32 rfl ⟨rfl, rfl⟩
    · replace hF := (if_neg c).symm.trans hF
      refine V_aload_n dX8_worth_15 rfl ?_
      obtain ⟨b2, hrb2, hF⟩ := bd hF
      obtain ⟨hb2, hF⟩ := gv_in hF
      replace hb2 := ckX7_ok hb2
      refine X_gR G dX8_worth_16 fX8_74 ht.1 rfl hrb2 ?_
      refine X_gJ G dX8_worth_19 fX8_241 hb2.1 rfl ?_
      refine V_goto (tgt := 32) dX8_worth_22 (by decide) ?_
      cases hF
      exact V_lreturn dX8_worth_32 rfl ⟨rfl, rfl⟩
  · replace hF := (if_pos c).symm.trans hF
    refine V_ldc2 dX8_worth_7 qX8_208 ?_
    cases hF
    exact V_lreturn dX8_worth_10 rfl ⟨rfl, rfl⟩
set_option maxRecDepth 100000 in
set_option maxHeartbeats 4000000 in
theorem s_X8_rest {l : Launch} {s0 : State} {D : va_G} {a0 : Array Value} {sh : List Sh} {f : Nat} {S : St} {t : Nat} {p1 : Int32} (ht : isX8 sh t) {r : Int32} (G : GC l s0 D a0) (hF : F_X8_rest sh f S t p1 = some r) {d : Nat} (hd : 2 ≤ d) : Sp l s0 D d 0 0 mX8_rest (fun v h => v = some (.int r) ∧ h = wd s0.heap.size sh S) v_noX [.ref (s0.heap.size + t), .int p1] (wd s0.heap.size sh S) := by
  obtain ⟨d, rfl⟩ : ∃ e, d = e + 1 := ⟨d - 1, by omega⟩
  refine Sp.of (by decide +kernel) rfl (Nat.le_of_ble_eq_true rfl) ?_
  unfold F_X8_rest at hF
  refine V_aload_n dX8_rest_0 rfl ?_
  refine X_gI G dX8_rest_1 fX8_238 ht.1 rfl ?_
  refine V_if_eq (tgt := 18) dX8_rest_4 (by decide) (fun c => ?_) (fun c => ?_)
  · replace hF := (if_pos c).symm.trans hF
    refine V_iconst (v := -1) dX8_rest_18 (by decide) ?_
    cases hF
    exact V_ireturn dX8_rest_19 rfl rfl ⟨rfl, rfl⟩
  · replace hF := (if_neg c).symm.trans hF
    refine V_aload_n dX8_rest_7 rfl ?_
    obtain ⟨b1, hrb1, hF⟩ := bd hF
    obtain ⟨hb1, hF⟩ := gv_in hF
    replace hb1 := ckX7_ok hb1
    refine X_gR G dX8_rest_8 fX8_74 ht.1 rfl hrb1 ?_
    refine V_iload_n dX8_rest_11 rfl ?_
    obtain ⟨y2, hc, hF⟩ := bd hF
    refine V_callV G dX8_rest_12 kX8_248 (wd_at hb1.1) ⟨by decide, rfl⟩ (s_X7_restBy hb1 G hc (by omega)) rfl (Nat.le_of_ble_eq_true rfl) (fun _ _ _ q => q.elim) ?_
    rintro _ _ ⟨rfl, rfl⟩
    refine V_goto (tgt := 19) dX8_rest_15 (by decide) ?_
    cases hF
    exact V_ireturn dX8_rest_19 rfl rfl ⟨rfl, rfl⟩
set_option maxRecDepth 100000 in
set_option maxHeartbeats 4000000 in
theorem s_X8_pole {l : Launch} {s0 : State} {D : va_G} {a0 : Array Value} {sh : List Sh} {f : Nat} {S : St} {t : Nat} (ht : isX8 sh t) {r : Int32} (G : GC l s0 D a0) (hF : F_X8_pole sh f S t = some r) {d : Nat} (hd : 1 ≤ d) : Sp l s0 D d 0 0 mX8_pole (fun v h => v = some (.int r) ∧ h = wd s0.heap.size sh S) v_noX [.ref (s0.heap.size + t)] (wd s0.heap.size sh S) := by
  obtain ⟨d, rfl⟩ : ∃ e, d = e + 1 := ⟨d - 1, by omega⟩
  refine Sp.of (by decide +kernel) rfl (Nat.le_of_ble_eq_true rfl) ?_
  unfold F_X8_pole at hF
  refine V_aload_n dX8_pole_0 rfl ?_
  refine X_gI G dX8_pole_1 fX8_106 ht.1 rfl ?_
  refine V_iconst (v := 5) dX8_pole_4 (by decide) ?_
  refine V_icmp_ne (tgt := 15) dX8_pole_5 (by decide) (fun c => ?_) (fun c => ?_)
  · replace hF := (if_neg c).symm.trans hF
    refine V_iconst (v := -1) dX8_pole_15 (by decide) ?_
    cases hF
    exact V_ireturn dX8_pole_16 rfl rfl ⟨rfl, rfl⟩
  · replace hF := (if_pos c).symm.trans hF
    refine V_aload_n dX8_pole_8 rfl ?_
    refine X_gI G dX8_pole_9 fX8_251 ht.1 rfl ?_
    refine V_goto (tgt := 16) dX8_pole_12 (by decide) ?_
    cases hF
    exact V_ireturn dX8_pole_16 rfl rfl ⟨rfl, rfl⟩
set_option maxRecDepth 100000 in
set_option maxHeartbeats 4000000 in
theorem s_X8_count {l : Launch} {s0 : State} {D : va_G} {a0 : Array Value} {sh : List Sh} {f : Nat} {S : St} {t : Nat} {p1 : Int32} (ht : isX8 sh t) {r : Int32} (G : GC l s0 D a0) (hF : F_X8_count sh f S t p1 = some r) {d : Nat} (hd : 3 ≤ d) : Sp l s0 D d 0 0 mX8_count (fun v h => v = some (.int r) ∧ h = wd s0.heap.size sh S) v_noX [.ref (s0.heap.size + t), .int p1] (wd s0.heap.size sh S) := by
  obtain ⟨d, rfl⟩ : ∃ e, d = e + 1 := ⟨d - 1, by omega⟩
  refine Sp.of (by decide +kernel) rfl (Nat.le_of_ble_eq_true rfl) ?_
  unfold F_X8_count at hF
  refine V_iload_n dX8_count_0 rfl ?_
  by_cases c0 : p1 = (0 : Int32)
  · replace hF := (if_pos c0).symm.trans hF
    refine V_tableIn (off := 47) (tgt := 48) dX8_count_1 (by rw [c0]; decide) (by rw [c0]; decide) (by rw [c0]; decide) (by decide) ?_
    refine V_aload_n dX8_count_48 rfl ?_
    obtain ⟨b1, hrb1, hF⟩ := bd hF
    obtain ⟨hb1, hF⟩ := gv_in hF
    replace hb1 := ckX0_ok hb1
    refine X_gR G dX8_count_49 fX8_63 ht.1 rfl hrb1 ?_
    refine X_gI G dX8_count_52 fX8_109 hb1.1 rfl ?_
    cases hF
    exact V_ireturn dX8_count_55 rfl rfl ⟨rfl, rfl⟩
  replace hF := (if_neg c0).symm.trans hF
  by_cases c1 : p1 = (1 : Int32)
  · replace hF := (if_pos c1).symm.trans hF
    refine V_tableIn (off := 55) (tgt := 56) dX8_count_1 (by rw [c1]; decide) (by rw [c1]; decide) (by rw [c1]; decide) (by decide) ?_
    refine V_aload_n dX8_count_56 rfl ?_
    obtain ⟨b2, hrb2, hF⟩ := bd hF
    obtain ⟨hb2, hF⟩ := gv_in hF
    replace hb2 := ckX0_ok hb2
    refine X_gR G dX8_count_57 fX8_63 ht.1 rfl hrb2 ?_
    refine X_gI G dX8_count_60 fX8_254 hb2.1 rfl ?_
    cases hF
    exact V_ireturn dX8_count_63 rfl rfl ⟨rfl, rfl⟩
  replace hF := (if_neg c1).symm.trans hF
  by_cases c2 : p1 = (2 : Int32)
  · replace hF := (if_pos c2).symm.trans hF
    refine V_tableIn (off := 63) (tgt := 64) dX8_count_1 (by rw [c2]; decide) (by rw [c2]; decide) (by rw [c2]; decide) (by decide) ?_
    refine V_aload_n dX8_count_64 rfl ?_
    refine X_gC G dX8_count_65 fX8_33 ht.1 rfl ?_
    refine X_gI G dX8_count_68 fX8_222 ht.2.2.2.2.1.1 rfl ?_
    cases hF
    exact V_ireturn dX8_count_71 rfl rfl ⟨rfl, rfl⟩
  replace hF := (if_neg c2).symm.trans hF
  by_cases c3 : p1 = (3 : Int32)
  · replace hF := (if_pos c3).symm.trans hF
    refine V_tableIn (off := 71) (tgt := 72) dX8_count_1 (by rw [c3]; decide) (by rw [c3]; decide) (by rw [c3]; decide) (by decide) ?_
    refine V_aload_n dX8_count_72 rfl ?_
    refine X_gI G dX8_count_73 fX8_102 ht.1 rfl ?_
    refine V_if_eq (tgt := 89) dX8_count_76 (by decide) (fun c => ?_) (fun c => ?_)
    · replace hF := (if_pos c).symm.trans hF
      refine V_iconst (v := 0) dX8_count_89 (by decide) ?_
      cases hF
      exact V_ireturn dX8_count_90 rfl rfl ⟨rfl, rfl⟩
    · replace hF := (if_neg c).symm.trans hF
      refine V_aload_n dX8_count_79 rfl ?_
      obtain ⟨b3, hrb3, hF⟩ := bd hF
      obtain ⟨hb3, hF⟩ := gv_in hF
      replace hb3 := ckX3_ok hb3
      refine X_gR G dX8_count_80 fX8_70 ht.1 rfl hrb3 ?_
      refine X_gI G dX8_count_83 fX8_150 hb3.1 rfl ?_
      refine V_goto (tgt := 90) dX8_count_86 (by decide) ?_
      cases hF
      exact V_ireturn dX8_count_90 rfl rfl ⟨rfl, rfl⟩
  replace hF := (if_neg c3).symm.trans hF
  by_cases c4 : p1 = (4 : Int32)
  · replace hF := (if_pos c4).symm.trans hF
    refine V_tableIn (off := 90) (tgt := 91) dX8_count_1 (by rw [c4]; decide) (by rw [c4]; decide) (by rw [c4]; decide) (by decide) ?_
    refine V_aload_n dX8_count_91 rfl ?_
    refine X_gI G dX8_count_92 fX8_102 ht.1 rfl ?_
    refine V_if_eq (tgt := 108) dX8_count_95 (by decide) (fun c => ?_) (fun c => ?_)
    · replace hF := (if_pos c).symm.trans hF
      refine V_iconst (v := 0) dX8_count_108 (by decide) ?_
      cases hF
      exact V_ireturn dX8_count_109 rfl rfl ⟨rfl, rfl⟩
    · replace hF := (if_neg c).symm.trans hF
      refine V_aload_n dX8_count_98 rfl ?_
      obtain ⟨b4, hrb4, hF⟩ := bd hF
      obtain ⟨hb4, hF⟩ := gv_in hF
      replace hb4 := ckX3_ok hb4
      refine X_gR G dX8_count_99 fX8_70 ht.1 rfl hrb4 ?_
      refine X_gI G dX8_count_102 fX8_187 hb4.1 rfl ?_
      refine V_goto (tgt := 109) dX8_count_105 (by decide) ?_
      cases hF
      exact V_ireturn dX8_count_109 rfl rfl ⟨rfl, rfl⟩
  replace hF := (if_neg c4).symm.trans hF
  by_cases c5 : p1 = (5 : Int32)
  · replace hF := (if_pos c5).symm.trans hF
    refine V_tableIn (off := 109) (tgt := 110) dX8_count_1 (by rw [c5]; decide) (by rw [c5]; decide) (by rw [c5]; decide) (by decide) ?_
    refine V_aload_n dX8_count_110 rfl ?_
    refine X_gI G dX8_count_111 fX8_102 ht.1 rfl ?_
    refine V_if_eq (tgt := 127) dX8_count_114 (by decide) (fun c => ?_) (fun c => ?_)
    · replace hF := (if_pos c).symm.trans hF
      refine V_iconst (v := 0) dX8_count_127 (by decide) ?_
      cases hF
      exact V_ireturn dX8_count_128 rfl rfl ⟨rfl, rfl⟩
    · replace hF := (if_neg c).symm.trans hF
      refine V_aload_n dX8_count_117 rfl ?_
      obtain ⟨b5, hrb5, hF⟩ := bd hF
      obtain ⟨hb5, hF⟩ := gv_in hF
      replace hb5 := ckX3_ok hb5
      refine X_gR G dX8_count_118 fX8_70 ht.1 rfl hrb5 ?_
      obtain ⟨y6, hc, hF⟩ := bd hF
      refine V_callV G dX8_count_121 kX8_257 (wd_at hb5.1) ⟨by decide, rfl⟩ (s_X3_withoutLoops hb5 G hc (by omega)) rfl (Nat.le_of_ble_eq_true rfl) (fun _ _ _ q => q.elim) ?_
      rintro _ _ ⟨rfl, rfl⟩
      refine V_goto (tgt := 128) dX8_count_124 (by decide) ?_
      cases hF
      exact V_ireturn dX8_count_128 rfl rfl ⟨rfl, rfl⟩
  replace hF := (if_neg c5).symm.trans hF
  by_cases c6 : p1 = (6 : Int32)
  · replace hF := (if_pos c6).symm.trans hF
    refine V_tableIn (off := 128) (tgt := 129) dX8_count_1 (by rw [c6]; decide) (by rw [c6]; decide) (by rw [c6]; decide) (by decide) ?_
    refine V_aload_n dX8_count_129 rfl ?_
    refine X_gI G dX8_count_130 fX8_102 ht.1 rfl ?_
    refine V_if_eq (tgt := 146) dX8_count_133 (by decide) (fun c => ?_) (fun c => ?_)
    · replace hF := (if_pos c).symm.trans hF
      refine V_iconst (v := 0) dX8_count_146 (by decide) ?_
      cases hF
      exact V_ireturn dX8_count_147 rfl rfl ⟨rfl, rfl⟩
    · replace hF := (if_neg c).symm.trans hF
      refine V_aload_n dX8_count_136 rfl ?_
      obtain ⟨b7, hrb7, hF⟩ := bd hF
      obtain ⟨hb7, hF⟩ := gv_in hF
      replace hb7 := ckX3_ok hb7
      refine X_gR G dX8_count_137 fX8_70 ht.1 rfl hrb7 ?_
      obtain ⟨y8, hc, hF⟩ := bd hF
      refine V_callV G dX8_count_140 kX8_260 (wd_at hb7.1) ⟨by decide, rfl⟩ (s_X3_withoutCuts hb7 G hc (by omega)) rfl (Nat.le_of_ble_eq_true rfl) (fun _ _ _ q => q.elim) ?_
      rintro _ _ ⟨rfl, rfl⟩
      refine V_goto (tgt := 147) dX8_count_143 (by decide) ?_
      cases hF
      exact V_ireturn dX8_count_147 rfl rfl ⟨rfl, rfl⟩
  replace hF := (if_neg c6).symm.trans hF
  by_cases c7 : p1 = (7 : Int32)
  · replace hF := (if_pos c7).symm.trans hF
    refine V_tableIn (off := 147) (tgt := 148) dX8_count_1 (by rw [c7]; decide) (by rw [c7]; decide) (by rw [c7]; decide) (by decide) ?_
    refine V_aload_n dX8_count_148 rfl ?_
    refine X_gC G dX8_count_149 fX8_10 ht.1 rfl ?_
    refine X_gI G dX8_count_152 fX8_84 ht.2.1.1 rfl ?_
    cases hF
    exact V_ireturn dX8_count_155 rfl rfl ⟨rfl, rfl⟩
  replace hF := (if_neg c7).symm.trans hF
  refine V_tableOut (tgt := 156) dX8_count_1 (by have e0 := ts_ne c0 (n := 0) (by decide); have e1 := ts_ne c1 (n := 1) (by decide); have e2 := ts_ne c2 (n := 2) (by decide); have e3 := ts_ne c3 (n := 3) (by decide); have e4 := ts_ne c4 (n := 4) (by decide); have e5 := ts_ne c5 (n := 5) (by decide); have e6 := ts_ne c6 (n := 6) (by decide); have e7 := ts_ne c7 (n := 7) (by decide); omega) (by decide) ?_
  refine V_iconst (v := -1) dX8_count_156 (by decide) ?_
  cases hF
  exact V_ireturn dX8_count_157 rfl rfl ⟨rfl, rfl⟩
set_option maxRecDepth 100000 in
set_option maxHeartbeats 4000000 in
theorem s_X8_trouble {l : Launch} {s0 : State} {D : va_G} {a0 : Array Value} {sh : List Sh} {f : Nat} {S : St} {t : Nat} (ht : isX8 sh t) {r : Int32} (G : GC l s0 D a0) (hF : F_X8_trouble sh f S t = some r) {d : Nat} (hd : 1 ≤ d) : Sp l s0 D d 0 0 mX8_trouble (fun v h => v = some (.int r) ∧ h = wd s0.heap.size sh S) v_noX [.ref (s0.heap.size + t)] (wd s0.heap.size sh S) := by
  obtain ⟨d, rfl⟩ : ∃ e, d = e + 1 := ⟨d - 1, by omega⟩
  refine Sp.of (by decide +kernel) rfl (Nat.le_of_ble_eq_true rfl) ?_
  unfold F_X8_trouble at hF
  refine V_aload_n dX8_trouble_0 rfl ?_
  refine X_gI G dX8_trouble_1 fX8_106 ht.1 rfl ?_
  cases hF
  exact V_ireturn dX8_trouble_4 rfl rfl ⟨rfl, rfl⟩
set_option maxRecDepth 100000 in
set_option maxHeartbeats 4000000 in
theorem w_X9_kindOf_L2 {l : Launch} {s0 : State} {D : va_G} {a0 : Array Value} {sh : List Sh} {f : Nat} {S : St} {t : Nat} {p1 : Int64} (ht : isX9 sh t) {r : Int32} {d : Nat} (G : GC l s0 D a0) (hd : 1 ≤ d + 1) : ∀ (n : Nat) (l3 : Int32), F_X9_kindOf_L2 sh f S t p1 n l3 = some r → V l s0 D (d + 1) 0 0 mX9_kindOf (fun v h => v = some (.int r) ∧ h = wd s0.heap.size sh S) v_noX 2 [(0, .ref (s0.heap.size + t)), (1, .long p1), (3, .int l3)] [] (wd s0.heap.size sh S) := by
  intro n
  induction n with
  | zero => intro l3 hF; cases hF
  | succ n ih =>
    intro l3 hF
    unfold F_X9_kindOf_L2 at hF
    refine V_iload_n dX9_kindOf_2 rfl ?_
    refine V_aload_n dX9_kindOf_3 rfl ?_
    refine X_gI G dX9_kindOf_4 fX9_44 ht.1 rfl ?_
    refine V_icmp_ge (tgt := 29) dX9_kindOf_7 (by decide) (fun c => ?_) (fun c => ?_)
    · replace hF := (if_pos c).symm.trans hF
      refine V_iconst (v := -1) dX9_kindOf_29 (by decide) ?_
      cases hF
      exact V_ireturn dX9_kindOf_30 rfl rfl ⟨rfl, rfl⟩
    · replace hF := (if_neg c).symm.trans hF
      refine V_aload_n dX9_kindOf_10 rfl ?_
      refine X_gC G dX9_kindOf_11 fX9_9 ht.1 rfl ?_
      refine V_iload_n dX9_kindOf_14 rfl ?_
      obtain ⟨hz, hF⟩ := gv_out hF
      refine X_lald dX9_kindOf_15 ht.2.1 hz ?_
      refine V_lload_n dX9_kindOf_16 rfl ?_
      refine V_lcmp dX9_kindOf_17 ?_
      refine V_if_ne (tgt := 23) dX9_kindOf_18 (by decide) (fun c => ?_) (fun c => ?_)
      · replace hF := (if_neg c).symm.trans hF
        obtain ⟨x1, qx1, hF⟩ := bnd_g hF
        refine B_iinc (v := 1) qx1 dX9_kindOf_23 rfl (by decide) (by decide) ?_
        refine V_goto (tgt := 2) dX9_kindOf_26 (by decide) ?_
        exact V_lv' (ih _ hF) (v_all_c rfl (v_all_c rfl (v_all_c rfl v_all_n)))
      · replace hF := (if_pos c).symm.trans hF
        refine V_iload_n dX9_kindOf_21 rfl ?_
        cases hF
        exact V_ireturn dX9_kindOf_22 rfl rfl ⟨rfl, rfl⟩
set_option maxRecDepth 100000 in
set_option maxHeartbeats 4000000 in
theorem s_X9_kindOf {l : Launch} {s0 : State} {D : va_G} {a0 : Array Value} {sh : List Sh} {f : Nat} {S : St} {t : Nat} {p1 : Int64} (ht : isX9 sh t) {r : Int32} (G : GC l s0 D a0) (hF : F_X9_kindOf sh f S t p1 = some r) {d : Nat} (hd : 1 ≤ d) : Sp l s0 D d 0 0 mX9_kindOf (fun v h => v = some (.int r) ∧ h = wd s0.heap.size sh S) v_noX [.ref (s0.heap.size + t), .long p1] (wd s0.heap.size sh S) := by
  obtain ⟨d, rfl⟩ : ∃ e, d = e + 1 := ⟨d - 1, by omega⟩
  refine Sp.of (by decide +kernel) rfl (Nat.le_of_ble_eq_true rfl) ?_
  unfold F_X9_kindOf at hF
  refine V_iconst (v := 0) dX9_kindOf_0 (by decide) ?_
  refine V_istore_n dX9_kindOf_1 (by decide) ?_
  exact V_lv' (w_X9_kindOf_L2 ht G hd f _ hF) (v_all_c rfl (v_all_c rfl (v_all_c rfl v_all_n)))

