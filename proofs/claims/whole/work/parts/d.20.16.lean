set_option maxRecDepth 100000 in
set_option maxHeartbeats 4000000 in
theorem s_X8_orderRefusal {l : Launch} {s0 : State} {D : va_G} {a0 : Array Value} {sh : List Sh} {f : Nat} {S : St} {t : Nat} {p1 : Int32} (ht : isX8 sh t) {r : Int32} (G : GC l s0 D a0) (hF : F_X8_orderRefusal sh f S t p1 = some r) {d : Nat} (hd : 1 ≤ d) : Sp l s0 D d 0 0 mX8_orderRefusal (fun v h => v = some (.int r) ∧ h = wd s0.heap.size sh S) v_noX [.ref (s0.heap.size + t), .int p1] (wd s0.heap.size sh S) := by
  obtain ⟨d, rfl⟩ : ∃ e, d = e + 1 := ⟨d - 1, by omega⟩
  refine Sp.of (by decide +kernel) rfl (Nat.le_of_ble_eq_true rfl) ?_
  unfold F_X8_orderRefusal at hF
  refine V_aload_n dX8_orderRefusal_0 rfl ?_
  refine X_gC G dX8_orderRefusal_1 fX8_33 ht.1 rfl ?_
  refine X_gI G dX8_orderRefusal_4 fX8_222 ht.2.2.2.2.1.1 rfl ?_
  refine V_if_ne (tgt := 12) dX8_orderRefusal_7 (by decide) (fun c => ?_) (fun c => ?_)
  · replace hF := (if_neg c).symm.trans hF
    refine V_iload_n dX8_orderRefusal_12 rfl ?_
    refine V_iconst (v := 1) dX8_orderRefusal_13 (by decide) ?_
    refine V_icmp_lt (tgt := 22) dX8_orderRefusal_14 (by decide) (fun c => ?_) (fun c => ?_)
    · replace hF := (if_pos c).symm.trans hF
      refine V_iconst (v := 2) dX8_orderRefusal_22 (by decide) ?_
      refine V_goto (tgt := 27) dX8_orderRefusal_23 (by decide) ?_
      cases hF
      exact V_ireturn dX8_orderRefusal_27 rfl rfl ⟨rfl, rfl⟩
    · replace hF := (if_neg c).symm.trans hF
      refine V_iload_n dX8_orderRefusal_17 rfl ?_
      refine V_iconst (v := 3) dX8_orderRefusal_18 (by decide) ?_
      refine V_icmp_le (tgt := 26) dX8_orderRefusal_19 (by decide) (fun c => ?_) (fun c => ?_)
      · replace hF := (if_pos c).symm.trans hF
        refine V_iconst (v := 0) dX8_orderRefusal_26 (by decide) ?_
        cases hF
        exact V_ireturn dX8_orderRefusal_27 rfl rfl ⟨rfl, rfl⟩
      · replace hF := (if_neg c).symm.trans hF
        refine V_iconst (v := 2) dX8_orderRefusal_22 (by decide) ?_
        refine V_goto (tgt := 27) dX8_orderRefusal_23 (by decide) ?_
        cases hF
        exact V_ireturn dX8_orderRefusal_27 rfl rfl ⟨rfl, rfl⟩
  · replace hF := (if_pos c).symm.trans hF
    refine V_iconst (v := 1) dX8_orderRefusal_10 (by decide) ?_
    cases hF
    exact V_ireturn dX8_orderRefusal_11 rfl rfl ⟨rfl, rfl⟩
set_option maxRecDepth 100000 in
set_option maxHeartbeats 4000000 in
theorem s_X8_drawings {l : Launch} {s0 : State} {D : va_G} {a0 : Array Value} {sh : List Sh} {f : Nat} {S : St} {t : Nat} {p1 : Int32} (ht : isX8 sh t) {r : Int32 × St} (G : GC l s0 D a0) (hF : F_X8_drawings sh f S t p1 = some r) {d : Nat} (hd : 17 ≤ d) : Sp l s0 D d 0 0 mX8_drawings (fun v h => v = some (.int r.1) ∧ h = wd s0.heap.size sh r.2) v_noX [.ref (s0.heap.size + t), .int p1] (wd s0.heap.size sh S) := by
  obtain ⟨d, rfl⟩ : ∃ e, d = e + 1 := ⟨d - 1, by omega⟩
  refine Sp.of (by decide +kernel) rfl (Nat.le_of_ble_eq_true rfl) ?_
  unfold F_X8_drawings at hF
  refine V_aload_n dX8_drawings_0 rfl ?_
  refine V_iload_n dX8_drawings_1 rfl ?_
  obtain ⟨y1, hc, hF⟩ := bd hF
  refine V_callV G dX8_drawings_2 kX8_136 (wd_at ht.1) ⟨by decide, rfl⟩ (s_X8_orderRefusal ht G hc (by omega)) rfl (Nat.le_of_ble_eq_true rfl) (fun _ _ _ q => q.elim) ?_
  rintro _ _ ⟨rfl, rfl⟩
  refine V_istore_n dX8_drawings_5 (by decide) ?_
  refine V_iload_n dX8_drawings_6 rfl ?_
  refine V_if_eq (tgt := 16) dX8_drawings_7 (by decide) (fun c => ?_) (fun c => ?_)
  · replace hF := (if_pos c).symm.trans hF
    refine V_aload_n dX8_drawings_16 rfl ?_
    refine X_gC G dX8_drawings_17 fX8_33 ht.1 rfl ?_
    refine V_aload_n dX8_drawings_20 rfl ?_
    obtain ⟨b2, hrb2, hF⟩ := bd hF
    obtain ⟨hb2, hF⟩ := gv_in hF
    replace hb2 := ckX0_ok hb2
    refine X_gR G dX8_drawings_21 fX8_63 ht.1 rfl hrb2 ?_
    obtain ⟨y3, hc, hF⟩ := bd hF
    refine V_callV G dX8_drawings_24 kX8_139 (wd_at ht.2.2.2.2.1.1) ⟨by decide, rfl⟩ (s_X1_isBalanced ht.2.2.2.2.1 hb2 G hc (by omega)) rfl (Nat.le_of_ble_eq_true rfl) (fun _ _ _ q => q.elim) ?_
    rintro _ _ ⟨rfl, rfl⟩
    refine V_if_ne (tgt := 37) dX8_drawings_27 (by decide) (fun c => ?_) (fun c => ?_)
    · replace hF := (if_neg c).symm.trans hF
      refine V_aload_n dX8_drawings_37 rfl ?_
      refine X_gC G dX8_drawings_38 fX8_19 ht.1 rfl ?_
      refine V_aload_n dX8_drawings_41 rfl ?_
      obtain ⟨b4, hrb4, hF⟩ := bd hF
      obtain ⟨hb4, hF⟩ := gv_in hF
      replace hb4 := ckX0_ok hb4
      refine X_gR G dX8_drawings_42 fX8_63 ht.1 rfl hrb4 ?_
      refine V_aload_n dX8_drawings_45 rfl ?_
      refine X_gC G dX8_drawings_46 fX8_33 ht.1 rfl ?_
      refine V_iload_n dX8_drawings_49 rfl ?_
      obtain ⟨y5, hc, hF⟩ := bd hF
      refine V_callV G dX8_drawings_50 kX8_143 (wd_at ht.2.2.1.1) ⟨by decide, rfl⟩ (s_X5_fill ht.2.2.1 hb4 ht.2.2.2.2.1 G hc (by omega)) rfl (Nat.le_of_ble_eq_true rfl) (fun _ _ _ q => q.elim) ?_
      rintro _ _ ⟨rfl, rfl⟩
      refine V_if_ne (tgt := 62) dX8_drawings_53 (by decide) (fun c => ?_) (fun c => ?_)
      · replace hF := (if_neg c).symm.trans hF
        refine V_aload_n dX8_drawings_62 rfl ?_
        obtain ⟨b6, hrb6, hF⟩ := bd hF
        obtain ⟨hb6, hF⟩ := gv_in hF
        replace hb6 := ckX3_ok hb6
        refine X_gR G dX8_drawings_63 fX8_70 ht.1 rfl hrb6 ?_
        refine V_astore_n dX8_drawings_66 (by decide) ?_
        refine V_aload_n dX8_drawings_67 rfl ?_
        refine V_aload_n dX8_drawings_68 rfl ?_
        refine X_gC G dX8_drawings_69 fX8_19 ht.1 rfl ?_
        obtain ⟨b7, hrb7, hF⟩ := bd hF
        obtain ⟨hb7, hF⟩ := gv_in hF
        replace hb7 := ckX3_ok hb7
        refine X_gR G dX8_drawings_72 fX8_147 ht.2.2.1.1 rfl hrb7 ?_
        refine X_pR G dX8_drawings_75 gX8_70 ht.1 rfl rfl rfl ?_
        obtain ⟨S8, qS8, hF⟩ := bnd_g hF
        refine V_eqS qS8 ?_
        refine V_aload_n dX8_drawings_78 rfl ?_
        refine X_gC G dX8_drawings_79 fX8_19 ht.1 rfl ?_
        refine V_aload_n dX8_drawings_82 rfl ?_
        refine X_pR G dX8_drawings_83 gX8_147 ht.2.2.1.1 rfl rfl rfl ?_
        obtain ⟨S9, qS9, hF⟩ := bnd_g hF
        refine V_eqS qS9 ?_
        refine V_aload_n dX8_drawings_86 rfl ?_
        refine V_iconst (v := 1) dX8_drawings_87 (by decide) ?_
        refine X_pI G dX8_drawings_88 gX8_102 ht.1 rfl (by decide) (by decide) ?_
        obtain ⟨S10, qS10, hF⟩ := bnd_g hF
        refine V_eqS qS10 ?_
        refine V_aload_n dX8_drawings_91 rfl ?_
        refine V_iconst (v := 0) dX8_drawings_92 (by decide) ?_
        refine X_pI G dX8_drawings_93 gX8_106 ht.1 rfl rfl rfl ?_
        obtain ⟨S11, qS11, hF⟩ := bnd_g hF
        refine V_eqS qS11 ?_
        refine V_aload_n dX8_drawings_96 rfl ?_
        obtain ⟨b12, hrb12, hF⟩ := bd hF
        obtain ⟨hb12, hF⟩ := gv_in hF
        replace hb12 := ckX3_ok hb12
        refine X_gR G dX8_drawings_97 fX8_70 ht.1 rfl hrb12 ?_
        refine X_gI G dX8_drawings_100 fX8_150 hb12.1 rfl ?_
        cases hF
        exact V_ireturn dX8_drawings_103 rfl rfl ⟨rfl, rfl⟩
      · replace hF := (if_pos c).symm.trans hF
        refine V_aload_n dX8_drawings_56 rfl ?_
        refine V_iconst (v := 3) dX8_drawings_57 (by decide) ?_
        obtain ⟨y13, hc, hF⟩ := bd hF
        refine V_callV G dX8_drawings_58 kX8_88 (wd_at ht.1) ⟨by decide, rfl⟩ (s_X8_refused ht G hc (by omega)) rfl (Nat.le_of_ble_eq_true rfl) (fun _ _ _ q => q.elim) ?_
        rintro _ _ ⟨rfl, rfl⟩
        cases hF
        exact V_ireturn dX8_drawings_61 rfl rfl ⟨rfl, rfl⟩
    · replace hF := (if_pos c).symm.trans hF
      refine V_aload_n dX8_drawings_30 rfl ?_
      refine V_bipush (v := 7) dX8_drawings_31 (by decide) ?_
      obtain ⟨y14, hc, hF⟩ := bd hF
      refine V_callV G dX8_drawings_33 kX8_88 (wd_at ht.1) ⟨by decide, rfl⟩ (s_X8_refused ht G hc (by omega)) rfl (Nat.le_of_ble_eq_true rfl) (fun _ _ _ q => q.elim) ?_
      rintro _ _ ⟨rfl, rfl⟩
      cases hF
      exact V_ireturn dX8_drawings_36 rfl rfl ⟨rfl, rfl⟩
  · replace hF := (if_neg c).symm.trans hF
    refine V_aload_n dX8_drawings_10 rfl ?_
    refine V_iload_n dX8_drawings_11 rfl ?_
    obtain ⟨y15, hc, hF⟩ := bd hF
    refine V_callV G dX8_drawings_12 kX8_88 (wd_at ht.1) ⟨by decide, rfl⟩ (s_X8_refused ht G hc (by omega)) rfl (Nat.le_of_ble_eq_true rfl) (fun _ _ _ q => q.elim) ?_
    rintro _ _ ⟨rfl, rfl⟩
    cases hF
    exact V_ireturn dX8_drawings_15 rfl rfl ⟨rfl, rfl⟩
set_option maxRecDepth 100000 in
set_option maxHeartbeats 4000000 in
theorem s_X8_isListed {l : Launch} {s0 : State} {D : va_G} {a0 : Array Value} {sh : List Sh} {f : Nat} {S : St} {t : Nat} {p1 : Int32} (ht : isX8 sh t) {r : Int32} (G : GC l s0 D a0) (hF : F_X8_isListed sh f S t p1 = some r) {d : Nat} (hd : 1 ≤ d) : Sp l s0 D d 0 0 mX8_isListed (fun v h => v = some (.int r) ∧ h = wd s0.heap.size sh S) v_noX [.ref (s0.heap.size + t), .int p1] (wd s0.heap.size sh S) := by
  obtain ⟨d, rfl⟩ : ∃ e, d = e + 1 := ⟨d - 1, by omega⟩
  refine Sp.of (by decide +kernel) rfl (Nat.le_of_ble_eq_true rfl) ?_
  unfold F_X8_isListed at hF
  refine V_aload_n dX8_isListed_0 rfl ?_
  refine X_gI G dX8_isListed_1 fX8_102 ht.1 rfl ?_
  refine V_if_eq (tgt := 26) dX8_isListed_4 (by decide) (fun c => ?_) (fun c => ?_)
  · replace hF := (if_pos c).symm.trans hF
    refine V_iconst (v := 0) dX8_isListed_26 (by decide) ?_
    cases hF
    exact V_ireturn dX8_isListed_27 rfl (by decide) ⟨rfl, rfl⟩
  · replace hF := (if_neg c).symm.trans hF
    refine V_iload_n dX8_isListed_7 rfl ?_
    refine V_if_lt (tgt := 26) dX8_isListed_8 (by decide) (fun c => ?_) (fun c => ?_)
    · replace hF := (if_pos c).symm.trans hF
      refine V_iconst (v := 0) dX8_isListed_26 (by decide) ?_
      cases hF
      exact V_ireturn dX8_isListed_27 rfl (by decide) ⟨rfl, rfl⟩
    · replace hF := (if_neg c).symm.trans hF
      refine V_iload_n dX8_isListed_11 rfl ?_
      refine V_aload_n dX8_isListed_12 rfl ?_
      obtain ⟨b1, hrb1, hF⟩ := bd hF
      obtain ⟨hb1, hF⟩ := gv_in hF
      replace hb1 := ckX3_ok hb1
      refine X_gR G dX8_isListed_13 fX8_70 ht.1 rfl hrb1 ?_
      refine X_gI G dX8_isListed_16 fX8_150 hb1.1 rfl ?_
      refine V_icmp_ge (tgt := 26) dX8_isListed_19 (by decide) (fun c => ?_) (fun c => ?_)
      · replace hF := (if_pos c).symm.trans hF
        refine V_iconst (v := 0) dX8_isListed_26 (by decide) ?_
        cases hF
        exact V_ireturn dX8_isListed_27 rfl (by decide) ⟨rfl, rfl⟩
      · replace hF := (if_neg c).symm.trans hF
        refine V_iconst (v := 1) dX8_isListed_22 (by decide) ?_
        refine V_goto (tgt := 27) dX8_isListed_23 (by decide) ?_
        cases hF
        exact V_ireturn dX8_isListed_27 rfl (by decide) ⟨rfl, rfl⟩
set_option maxRecDepth 100000 in
set_option maxHeartbeats 4000000 in
theorem s_X8_drawing {l : Launch} {s0 : State} {D : va_G} {a0 : Array Value} {sh : List Sh} {f : Nat} {S : St} {t : Nat} {p1 : Int32} {p2 : Int32} (ht : isX8 sh t) {r : Int32} (G : GC l s0 D a0) (hF : F_X8_drawing sh f S t p1 p2 = some r) {d : Nat} (hd : 3 ≤ d) : Sp l s0 D d 0 0 mX8_drawing (fun v h => v = some (.int r) ∧ h = wd s0.heap.size sh S) v_noX [.ref (s0.heap.size + t), .int p1, .int p2] (wd s0.heap.size sh S) := by
  obtain ⟨d, rfl⟩ : ∃ e, d = e + 1 := ⟨d - 1, by omega⟩
  refine Sp.of (by decide +kernel) rfl (Nat.le_of_ble_eq_true rfl) ?_
  unfold F_X8_drawing at hF
  refine V_aload_n dX8_drawing_0 rfl ?_
  refine V_iload_n dX8_drawing_1 rfl ?_
  obtain ⟨y1, hc, hF⟩ := bd hF
  refine V_callV G dX8_drawing_2 kX8_153 (wd_at ht.1) ⟨by decide, rfl⟩ (s_X8_isListed ht G hc (by omega)) rfl (Nat.le_of_ble_eq_true rfl) (fun _ _ _ q => q.elim) ?_
  rintro _ _ ⟨rfl, rfl⟩
  refine V_if_eq (tgt := 20) dX8_drawing_5 (by decide) (fun c => ?_) (fun c => ?_)
  · replace hF := (if_pos c).symm.trans hF
    refine V_ldc dX8_drawing_20 qX8_159 ?_
    cases hF
    exact V_ireturn dX8_drawing_22 rfl rfl ⟨rfl, rfl⟩
  · replace hF := (if_neg c).symm.trans hF
    refine V_aload_n dX8_drawing_8 rfl ?_
    obtain ⟨b2, hrb2, hF⟩ := bd hF
    obtain ⟨hb2, hF⟩ := gv_in hF
    replace hb2 := ckX3_ok hb2
    refine X_gR G dX8_drawing_9 fX8_70 ht.1 rfl hrb2 ?_
    refine V_iload_n dX8_drawing_12 rfl ?_
    refine V_iload_n dX8_drawing_13 rfl ?_
    obtain ⟨y3, hc, hF⟩ := bd hF
    refine V_callV G dX8_drawing_14 kX8_156 (wd_at hb2.1) ⟨by decide, rfl⟩ (s_X3_ofDrawing hb2 G hc (by omega)) rfl (Nat.le_of_ble_eq_true rfl) (fun _ _ _ q => q.elim) ?_
    rintro _ _ ⟨rfl, rfl⟩
    refine V_goto (tgt := 22) dX8_drawing_17 (by decide) ?_
    cases hF
    exact V_ireturn dX8_drawing_22 rfl rfl ⟨rfl, rfl⟩
set_option maxRecDepth 100000 in
set_option maxHeartbeats 4000000 in
theorem s_X8_point {l : Launch} {s0 : State} {D : va_G} {a0 : Array Value} {sh : List Sh} {f : Nat} {S : St} {t : Nat} {p1 : Int32} {p2 : Int32} (ht : isX8 sh t) {r : Int32} (G : GC l s0 D a0) (hF : F_X8_point sh f S t p1 p2 = some r) {d : Nat} (hd : 3 ≤ d) : Sp l s0 D d 0 0 mX8_point (fun v h => v = some (.int r) ∧ h = wd s0.heap.size sh S) v_noX [.ref (s0.heap.size + t), .int p1, .int p2] (wd s0.heap.size sh S) := by
  obtain ⟨d, rfl⟩ : ∃ e, d = e + 1 := ⟨d - 1, by omega⟩
  refine Sp.of (by decide +kernel) rfl (Nat.le_of_ble_eq_true rfl) ?_
  unfold F_X8_point at hF
  refine V_aload_n dX8_point_0 rfl ?_
  refine V_iload_n dX8_point_1 rfl ?_
  obtain ⟨y1, hc, hF⟩ := bd hF
  refine V_callV G dX8_point_2 kX8_153 (wd_at ht.1) ⟨by decide, rfl⟩ (s_X8_isListed ht G hc (by omega)) rfl (Nat.le_of_ble_eq_true rfl) (fun _ _ _ q => q.elim) ?_
  rintro _ _ ⟨rfl, rfl⟩
  refine V_if_eq (tgt := 20) dX8_point_5 (by decide) (fun c => ?_) (fun c => ?_)
  · replace hF := (if_pos c).symm.trans hF
    refine V_iconst (v := -1) dX8_point_20 (by decide) ?_
    cases hF
    exact V_ireturn dX8_point_21 rfl rfl ⟨rfl, rfl⟩
  · replace hF := (if_neg c).symm.trans hF
    refine V_aload_n dX8_point_8 rfl ?_
    obtain ⟨b2, hrb2, hF⟩ := bd hF
    obtain ⟨hb2, hF⟩ := gv_in hF
    replace hb2 := ckX3_ok hb2
    refine X_gR G dX8_point_9 fX8_70 ht.1 rfl hrb2 ?_
    refine V_iload_n dX8_point_12 rfl ?_
    refine V_iload_n dX8_point_13 rfl ?_
    obtain ⟨y3, hc, hF⟩ := bd hF
    refine V_callV G dX8_point_14 kX8_160 (wd_at hb2.1) ⟨by decide, rfl⟩ (s_X3_ruleOf hb2 G hc (by omega)) rfl (Nat.le_of_ble_eq_true rfl) (fun _ _ _ q => q.elim) ?_
    rintro _ _ ⟨rfl, rfl⟩
    refine V_goto (tgt := 21) dX8_point_17 (by decide) ?_
    cases hF
    exact V_ireturn dX8_point_21 rfl rfl ⟨rfl, rfl⟩
set_option maxRecDepth 100000 in
set_option maxHeartbeats 4000000 in
theorem s_X8_joined {l : Launch} {s0 : State} {D : va_G} {a0 : Array Value} {sh : List Sh} {f : Nat} {S : St} {t : Nat} {p1 : Int32} {p2 : Int32} (ht : isX8 sh t) {r : Int32} (G : GC l s0 D a0) (hF : F_X8_joined sh f S t p1 p2 = some r) {d : Nat} (hd : 3 ≤ d) : Sp l s0 D d 0 0 mX8_joined (fun v h => v = some (.int r) ∧ h = wd s0.heap.size sh S) v_noX [.ref (s0.heap.size + t), .int p1, .int p2] (wd s0.heap.size sh S) := by
  obtain ⟨d, rfl⟩ : ∃ e, d = e + 1 := ⟨d - 1, by omega⟩
  refine Sp.of (by decide +kernel) rfl (Nat.le_of_ble_eq_true rfl) ?_
  unfold F_X8_joined at hF
  refine V_aload_n dX8_joined_0 rfl ?_
  refine V_iload_n dX8_joined_1 rfl ?_
  obtain ⟨y1, hc, hF⟩ := bd hF
  refine V_callV G dX8_joined_2 kX8_153 (wd_at ht.1) ⟨by decide, rfl⟩ (s_X8_isListed ht G hc (by omega)) rfl (Nat.le_of_ble_eq_true rfl) (fun _ _ _ q => q.elim) ?_
  rintro _ _ ⟨rfl, rfl⟩
  refine V_if_eq (tgt := 20) dX8_joined_5 (by decide) (fun c => ?_) (fun c => ?_)
  · replace hF := (if_pos c).symm.trans hF
    refine V_iconst (v := -1) dX8_joined_20 (by decide) ?_
    cases hF
    exact V_ireturn dX8_joined_21 rfl rfl ⟨rfl, rfl⟩
  · replace hF := (if_neg c).symm.trans hF
    refine V_aload_n dX8_joined_8 rfl ?_
    obtain ⟨b2, hrb2, hF⟩ := bd hF
    obtain ⟨hb2, hF⟩ := gv_in hF
    replace hb2 := ckX3_ok hb2
    refine X_gR G dX8_joined_9 fX8_70 ht.1 rfl hrb2 ?_
    refine V_iload_n dX8_joined_12 rfl ?_
    refine V_iload_n dX8_joined_13 rfl ?_
    obtain ⟨y3, hc, hF⟩ := bd hF
    refine V_callV G dX8_joined_14 kX8_163 (wd_at hb2.1) ⟨by decide, rfl⟩ (s_X3_partnerOf hb2 G hc (by omega)) rfl (Nat.le_of_ble_eq_true rfl) (fun _ _ _ q => q.elim) ?_
    rintro _ _ ⟨rfl, rfl⟩
    refine V_goto (tgt := 21) dX8_joined_17 (by decide) ?_
    cases hF
    exact V_ireturn dX8_joined_21 rfl rfl ⟨rfl, rfl⟩
set_option maxRecDepth 100000 in
set_option maxHeartbeats 4000000 in
theorem s_X8_pairings {l : Launch} {s0 : State} {D : va_G} {a0 : Array Value} {sh : List Sh} {f : Nat} {S : St} {t : Nat} (ht : isX8 sh t) {r : Int32} (G : GC l s0 D a0) (hF : F_X8_pairings sh f S t = some r) {d : Nat} (hd : 3 ≤ d) : Sp l s0 D d 0 0 mX8_pairings (fun v h => v = some (.int r) ∧ h = wd s0.heap.size sh S) v_noX [.ref (s0.heap.size + t)] (wd s0.heap.size sh S) := by
  obtain ⟨d, rfl⟩ : ∃ e, d = e + 1 := ⟨d - 1, by omega⟩
  refine Sp.of (by decide +kernel) rfl (Nat.le_of_ble_eq_true rfl) ?_
  unfold F_X8_pairings at hF
  refine V_aload_n dX8_pairings_0 rfl ?_
  refine X_gI G dX8_pairings_1 fX8_102 ht.1 rfl ?_
  refine V_if_eq (tgt := 17) dX8_pairings_4 (by decide) (fun c => ?_) (fun c => ?_)
  · replace hF := (if_pos c).symm.trans hF
    refine V_iconst (v := -1) dX8_pairings_17 (by decide) ?_
    cases hF
    exact V_ireturn dX8_pairings_18 rfl rfl ⟨rfl, rfl⟩
  · replace hF := (if_neg c).symm.trans hF
    refine V_aload_n dX8_pairings_7 rfl ?_
    obtain ⟨b1, hrb1, hF⟩ := bd hF
    obtain ⟨hb1, hF⟩ := gv_in hF
    replace hb1 := ckX3_ok hb1
    refine X_gR G dX8_pairings_8 fX8_70 ht.1 rfl hrb1 ?_
    obtain ⟨y2, hc, hF⟩ := bd hF
    refine V_callV G dX8_pairings_11 kX8_176 (wd_at hb1.1) ⟨by decide, rfl⟩ (s_X3_allWays hb1 G hc (by omega)) rfl (Nat.le_of_ble_eq_true rfl) (fun _ _ _ q => q.elim) ?_
    rintro _ _ ⟨rfl, rfl⟩
    refine V_goto (tgt := 18) dX8_pairings_14 (by decide) ?_
    cases hF
    exact V_ireturn dX8_pairings_18 rfl rfl ⟨rfl, rfl⟩
set_option maxRecDepth 100000 in
set_option maxHeartbeats 4000000 in
theorem s_X8_packPair {l : Launch} {s0 : State} {D : va_G} {a0 : Array Value} {sh : List Sh} {f : Nat} {S : St} {p0 : Int32} {p1 : Int32} {p2 : Int32} {p3 : Int64} {r : Int64} (G : GC l s0 D a0) (hF : F_X8_packPair sh f S p0 p1 p2 p3 = some r) {d : Nat} (hd : 2 ≤ d) : Sp l s0 D d 0 0 mX8_packPair (fun v h => v = some (.long r) ∧ h = wd s0.heap.size sh S) v_noX [.int p0, .int p1, .int p2, .long p3] (wd s0.heap.size sh S) := by
  obtain ⟨d, rfl⟩ : ∃ e, d = e + 1 := ⟨d - 1, by omega⟩
  refine Sp.of (by decide +kernel) rfl (Nat.le_of_ble_eq_true rfl) ?_
  unfold F_X8_packPair at hF
  refine V_iload_n dX8_packPair_0 rfl ?_
  refine V_iload_n dX8_packPair_1 rfl ?_
  refine V_icmp_ge (tgt := 11) dX8_packPair_2 (by decide) (fun c => ?_) (fun c => ?_)
  · replace hF := (if_pos c).symm.trans hF
    refine V_lload_n dX8_packPair_11 rfl ?_
    cases hF
    exact V_lreturn dX8_packPair_12 rfl ⟨rfl, rfl⟩
  · replace hF := (if_neg c).symm.trans hF
    refine V_lload_n dX8_packPair_5 rfl ?_
    refine V_lconst (v := 0) dX8_packPair_6 (by decide) ?_
    refine V_lcmp dX8_packPair_7 ?_
    refine V_if_ge (tgt := 13) dX8_packPair_8 (by decide) (fun c => ?_) (fun c => ?_)
    · replace hF := (if_pos c).symm.trans hF
      refine V_iload_n dX8_packPair_13 rfl ?_
      refine V_bipush (v := 100) dX8_packPair_14 (by decide) ?_
      obtain ⟨y1, hc, hF⟩ := bd hF
      refine V_callS dX8_packPair_16 kX8_327 (s_J9_floorDiv_7cf53 G hc (by omega)) rfl (Nat.le_of_ble_eq_true rfl) (fun _ _ _ q => q.elim) ?_
      rintro _ _ ⟨rfl, rfl⟩
      refine V_istore dX8_packPair_19 (by decide) ?_
      refine V_iload_n dX8_packPair_21 rfl ?_
      refine V_bipush (v := 100) dX8_packPair_22 (by decide) ?_
      obtain ⟨y2, hc, hF⟩ := bd hF
      refine V_callS dX8_packPair_24 kX8_332 (s_J9_floorMod_7cf53 G hc (by omega)) rfl (Nat.le_of_ble_eq_true rfl) (fun _ _ _ q => q.elim) ?_
      rintro _ _ ⟨rfl, rfl⟩
      refine V_istore dX8_packPair_27 (by decide) ?_
      refine V_iload dX8_packPair_29 rfl ?_
      refine V_if_lt (tgt := 46) dX8_packPair_31 (by decide) (fun c => ?_) (fun c => ?_)
      · replace hF := (if_pos c).symm.trans hF
        refine V_ldc2 dX8_packPair_46 qX8_335 ?_
        cases hF
        exact V_lreturn dX8_packPair_49 rfl ⟨rfl, rfl⟩
      · replace hF := (if_neg c).symm.trans hF
        refine V_iload dX8_packPair_34 rfl ?_
        refine V_iload_n dX8_packPair_36 rfl ?_
        refine V_icmp_ge (tgt := 46) dX8_packPair_37 (by decide) (fun c => ?_) (fun c => ?_)
        · replace hF := (if_pos c).symm.trans hF
          refine V_ldc2 dX8_packPair_46 qX8_335 ?_
          cases hF
          exact V_lreturn dX8_packPair_49 rfl ⟨rfl, rfl⟩
        · replace hF := (if_neg c).symm.trans hF
          refine V_iload dX8_packPair_40 rfl ?_
          refine V_iload_n dX8_packPair_42 rfl ?_
          refine V_icmp_lt (tgt := 50) dX8_packPair_43 (by decide) (fun c => ?_) (fun c => ?_)
          · replace hF := (if_pos c).symm.trans hF
            refine V_lload_n dX8_packPair_50 rfl ?_
            refine V_iload_n dX8_packPair_51 rfl ?_
            refine V_iload dX8_packPair_52 rfl ?_
            obtain ⟨y3, hc, hF⟩ := bd hF
            refine V_callS dX8_packPair_54 kX8_337 (s_X4_inRow G hc (by omega)) rfl (Nat.le_of_ble_eq_true rfl) (fun _ _ _ q => q.elim) ?_
            rintro _ _ ⟨rfl, rfl⟩
            refine V_lor dX8_packPair_57 ?_
            refine V_iload_n dX8_packPair_58 rfl ?_
            refine V_iconst (v := 1) dX8_packPair_59 (by decide) ?_
            refine V_iadd dX8_packPair_60 ?_
            refine V_iload dX8_packPair_61 rfl ?_
            obtain ⟨y4, hc, hF⟩ := bd hF
            refine V_callS dX8_packPair_63 kX8_337 (s_X4_inRow G hc (by omega)) rfl (Nat.le_of_ble_eq_true rfl) (fun _ _ _ q => q.elim) ?_
            rintro _ _ ⟨rfl, rfl⟩
            refine V_lor dX8_packPair_66 ?_
            cases hF
            exact V_lreturn dX8_packPair_67 rfl ⟨rfl, rfl⟩
          · replace hF := (if_neg c).symm.trans hF
            refine V_ldc2 dX8_packPair_46 qX8_335 ?_
            cases hF
            exact V_lreturn dX8_packPair_49 rfl ⟨rfl, rfl⟩
    · replace hF := (if_neg c).symm.trans hF
      refine V_lload_n dX8_packPair_11 rfl ?_
      cases hF
      exact V_lreturn dX8_packPair_12 rfl ⟨rfl, rfl⟩
set_option maxRecDepth 100000 in
set_option maxHeartbeats 4000000 in
theorem s_X8_same {l : Launch} {s0 : State} {D : va_G} {a0 : Array Value} {sh : List Sh} {f : Nat} {S : St} {t : Nat} {p1 : Int32} {p2 : Int32} {p3 : Int32} {p4 : Int32} {p5 : Int32} {p6 : Int32} {p7 : Int32} (ht : isX8 sh t) {r : Int32 × St} (G : GC l s0 D a0) (hF : F_X8_same sh f S t p1 p2 p3 p4 p5 p6 p7 = some r) {d : Nat} (hd : 6 ≤ d) : Sp l s0 D d 0 0 mX8_same (fun v h => v = some (.int r.1) ∧ h = wd s0.heap.size sh r.2) v_noX [.ref (s0.heap.size + t), .int p1, .int p2, .int p3, .int p4, .int p5, .int p6, .int p7] (wd s0.heap.size sh S) := by
  obtain ⟨d, rfl⟩ : ∃ e, d = e + 1 := ⟨d - 1, by omega⟩
  refine Sp.of (by decide +kernel) rfl (Nat.le_of_ble_eq_true rfl) ?_
  unfold F_X8_same at hF
  refine V_aload_n dX8_same_0 rfl ?_
  refine V_iload_n dX8_same_1 rfl ?_
  obtain ⟨y1, hc, hF⟩ := bd hF
  refine V_callV G dX8_same_2 kX8_153 (wd_at ht.1) ⟨by decide, rfl⟩ (s_X8_isListed ht G hc (by omega)) rfl (Nat.le_of_ble_eq_true rfl) (fun _ _ _ q => q.elim) ?_
  rintro _ _ ⟨rfl, rfl⟩
  refine V_if_ne (tgt := 10) dX8_same_5 (by decide) (fun c => ?_) (fun c => ?_)
  · replace hF := (if_neg c).symm.trans hF
    refine V_aload_n dX8_same_10 rfl ?_
    obtain ⟨b2, hrb2, hF⟩ := bd hF
    obtain ⟨hb2, hF⟩ := gv_in hF
    replace hb2 := ckX3_ok hb2
    refine X_gR G dX8_same_11 fX8_70 ht.1 rfl hrb2 ?_
    refine V_iload_n dX8_same_14 rfl ?_
    obtain ⟨y3, hc, hF⟩ := bd hF
    refine V_callV G dX8_same_15 kX8_180 (wd_at hb2.1) ⟨by decide, rfl⟩ (s_X3_legsOf hb2 G hc (by omega)) rfl (Nat.le_of_ble_eq_true rfl) (fun _ _ _ q => q.elim) ?_
    rintro _ _ ⟨rfl, rfl⟩
    refine V_istore dX8_same_18 (by decide) ?_
    refine V_iload_n dX8_same_20 rfl ?_
    refine V_iconst (v := 0) dX8_same_21 (by decide) ?_
    refine V_iload dX8_same_22 rfl ?_
    refine V_lconst (v := 0) dX8_same_24 (by decide) ?_
    obtain ⟨y4, hc, hF⟩ := bd hF
    refine V_callS dX8_same_25 kX8_183 (s_X8_packPair G hc (by omega)) rfl (Nat.le_of_ble_eq_true rfl) (fun _ _ _ q => q.elim) ?_
    rintro _ _ ⟨rfl, rfl⟩
    refine V_lstore dX8_same_28 (by decide) ?_
    refine V_iload_n dX8_same_30 rfl ?_
    refine V_iconst (v := 2) dX8_same_31 (by decide) ?_
    refine V_iload dX8_same_32 rfl ?_
    refine V_lload dX8_same_34 rfl ?_
    obtain ⟨y5, hc, hF⟩ := bd hF
    refine V_callS dX8_same_36 kX8_183 (s_X8_packPair G hc (by omega)) rfl (Nat.le_of_ble_eq_true rfl) (fun _ _ _ q => q.elim) ?_
    rintro _ _ ⟨rfl, rfl⟩
    refine V_lstore dX8_same_39 (by decide) ?_
    refine V_iload dX8_same_41 rfl ?_
    refine V_iconst (v := 4) dX8_same_43 (by decide) ?_
    refine V_iload dX8_same_44 rfl ?_
    refine V_lload dX8_same_46 rfl ?_
    obtain ⟨y6, hc, hF⟩ := bd hF
    refine V_callS dX8_same_48 kX8_183 (s_X8_packPair G hc (by omega)) rfl (Nat.le_of_ble_eq_true rfl) (fun _ _ _ q => q.elim) ?_
    rintro _ _ ⟨rfl, rfl⟩
    refine V_lstore dX8_same_51 (by decide) ?_
    refine V_iload dX8_same_53 rfl ?_
    refine V_bipush (v := 6) dX8_same_55 (by decide) ?_
    refine V_iload dX8_same_57 rfl ?_
    refine V_lload dX8_same_59 rfl ?_
    obtain ⟨y7, hc, hF⟩ := bd hF
    refine V_callS dX8_same_61 kX8_183 (s_X8_packPair G hc (by omega)) rfl (Nat.le_of_ble_eq_true rfl) (fun _ _ _ q => q.elim) ?_
    rintro _ _ ⟨rfl, rfl⟩
    refine V_lstore dX8_same_64 (by decide) ?_
    refine V_iload dX8_same_66 rfl ?_
    refine V_bipush (v := 8) dX8_same_68 (by decide) ?_
    refine V_iload dX8_same_70 rfl ?_
    refine V_lload dX8_same_72 rfl ?_
    obtain ⟨y8, hc, hF⟩ := bd hF
    refine V_callS dX8_same_74 kX8_183 (s_X8_packPair G hc (by omega)) rfl (Nat.le_of_ble_eq_true rfl) (fun _ _ _ q => q.elim) ?_
    rintro _ _ ⟨rfl, rfl⟩
    refine V_lstore dX8_same_77 (by decide) ?_
    refine V_iload dX8_same_79 rfl ?_
    refine V_bipush (v := 10) dX8_same_81 (by decide) ?_
    refine V_iload dX8_same_83 rfl ?_
    refine V_lload dX8_same_85 rfl ?_
    obtain ⟨y9, hc, hF⟩ := bd hF
    refine V_callS dX8_same_87 kX8_183 (s_X8_packPair G hc (by omega)) rfl (Nat.le_of_ble_eq_true rfl) (fun _ _ _ q => q.elim) ?_
    rintro _ _ ⟨rfl, rfl⟩
    refine V_lstore dX8_same_90 (by decide) ?_
    refine V_lload dX8_same_92 rfl ?_
    refine V_lconst (v := 0) dX8_same_94 (by decide) ?_
    refine V_lcmp dX8_same_95 ?_
    refine V_if_ge (tgt := 102) dX8_same_96 (by decide) (fun c => ?_) (fun c => ?_)
    · replace hF := (if_pos c).symm.trans hF
      refine V_aload_n dX8_same_102 rfl ?_
      refine X_gC G dX8_same_103 fX8_19 ht.1 rfl ?_
      refine V_aload_n dX8_same_106 rfl ?_
      obtain ⟨b10, hrb10, hF⟩ := bd hF
      obtain ⟨hb10, hF⟩ := gv_in hF
      replace hb10 := ckX0_ok hb10
      refine X_gR G dX8_same_107 fX8_63 ht.1 rfl hrb10 ?_
      refine V_aload_n dX8_same_110 rfl ?_
      refine X_gC G dX8_same_111 fX8_33 ht.1 rfl ?_
      refine V_aload_n dX8_same_114 rfl ?_
      obtain ⟨b11, hrb11, hF⟩ := bd hF
      obtain ⟨hb11, hF⟩ := gv_in hF
      replace hb11 := ckX3_ok hb11
      refine X_gR G dX8_same_115 fX8_70 ht.1 rfl hrb11 ?_
      refine X_gI G dX8_same_118 fX8_187 hb11.1 rfl ?_
      refine V_aload_n dX8_same_121 rfl ?_
      obtain ⟨b12, hrb12, hF⟩ := bd hF
      obtain ⟨hb12, hF⟩ := gv_in hF
      replace hb12 := ckX3_ok hb12
      refine X_gR G dX8_same_122 fX8_70 ht.1 rfl hrb12 ?_
      refine V_iload_n dX8_same_125 rfl ?_
      obtain ⟨y13, hc, hF⟩ := bd hF
      refine V_callV G dX8_same_126 kX8_190 (wd_at hb12.1) ⟨by decide, rfl⟩ (s_X3_codeOf hb12 G hc (by omega)) rfl (Nat.le_of_ble_eq_true rfl) (fun _ _ _ q => q.elim) ?_
      rintro _ _ ⟨rfl, rfl⟩
      refine V_lload dX8_same_129 rfl ?_
      obtain ⟨y14, hc, hF⟩ := bd hF
      refine V_callV G dX8_same_131 kX8_193 (wd_at ht.2.2.1.1) ⟨by decide, rfl⟩ (s_X5_leastOf ht.2.2.1 hb10 ht.2.2.2.2.1 G hc (by omega)) rfl (Nat.le_of_ble_eq_true rfl) (fun _ _ _ q => q.elim) ?_
      rintro _ _ ⟨rfl, rfl⟩
      obtain ⟨x15, qx15, hF⟩ := bnd_g hF
      refine B_lstore qx15 dX8_same_134 (by decide) ?_
      refine V_lload dX8_same_136 rfl ?_
      refine V_lconst (v := 0) dX8_same_138 (by decide) ?_
      refine V_lcmp dX8_same_139 ?_
      refine V_if_ge (tgt := 148) dX8_same_140 (by decide) (fun c => ?_) (fun c => ?_)
      · replace hF := (if_pos c).symm.trans hF
        refine V_aload_n dX8_same_148 rfl ?_
        obtain ⟨b16, hrb16, hF⟩ := bd hF
        obtain ⟨hb16, hF⟩ := gv_in hF
        replace hb16 := ckX3_ok hb16
        refine X_gR G dX8_same_149 fX8_70 ht.1 rfl hrb16 ?_
        refine V_aload_n dX8_same_152 rfl ?_
        obtain ⟨b17, hrb17, hF⟩ := bd hF
        obtain ⟨hb17, hF⟩ := gv_in hF
        replace hb17 := ckX3_ok hb17
        refine X_gR G dX8_same_153 fX8_70 ht.1 rfl hrb17 ?_
        refine V_iload_n dX8_same_156 rfl ?_
        obtain ⟨y18, hc, hF⟩ := bd hF
        refine V_callV G dX8_same_157 kX8_197 (wd_at hb17.1) ⟨by decide, rfl⟩ (s_X3_groupOf hb17 G hc (by omega)) rfl (Nat.le_of_ble_eq_true rfl) (fun _ _ _ q => q.elim) ?_
        rintro _ _ ⟨rfl, rfl⟩
        refine V_lload dX8_same_160 rfl ?_
        obtain ⟨y19, hc, hF⟩ := bd hF
        refine V_callV G dX8_same_162 kX8_200 (wd_at hb16.1) ⟨by decide, rfl⟩ (s_X3_find hb16 G hc (by omega)) rfl (Nat.le_of_ble_eq_true rfl) (fun _ _ _ q => q.elim) ?_
        rintro _ _ ⟨rfl, rfl⟩
        cases hF
        exact V_ireturn dX8_same_165 rfl rfl ⟨rfl, rfl⟩
      · replace hF := (if_neg c).symm.trans hF
        refine V_bipush (v := -2) dX8_same_143 (by decide) ?_
        refine V_goto (tgt := 165) dX8_same_145 (by decide) ?_
        cases hF
        exact V_ireturn dX8_same_165 rfl rfl ⟨rfl, rfl⟩
    · replace hF := (if_neg c).symm.trans hF
      refine V_bipush (v := -2) dX8_same_99 (by decide) ?_
      cases hF
      exact V_ireturn dX8_same_101 rfl rfl ⟨rfl, rfl⟩
  · replace hF := (if_pos c).symm.trans hF
    refine V_iconst (v := -1) dX8_same_8 (by decide) ?_
    cases hF
    exact V_ireturn dX8_same_9 rfl rfl ⟨rfl, rfl⟩
set_option maxRecDepth 100000 in
set_option maxHeartbeats 4000000 in
theorem s_X8_hasPowers {l : Launch} {s0 : State} {D : va_G} {a0 : Array Value} {sh : List Sh} {f : Nat} {S : St} {t : Nat} {p1 : Int32} {p2 : Int32} {p3 : Int32} (ht : isX8 sh t) {r : Int32} (G : GC l s0 D a0) (hF : F_X8_hasPowers sh f S t p1 p2 p3 = some r) {d : Nat} (hd : 1 ≤ d) : Sp l s0 D d 0 0 mX8_hasPowers (fun v h => v = some (.int r) ∧ h = wd s0.heap.size sh S) v_noX [.ref (s0.heap.size + t), .int p1, .int p2, .int p3] (wd s0.heap.size sh S) := by
  obtain ⟨d, rfl⟩ : ∃ e, d = e + 1 := ⟨d - 1, by omega⟩
  refine Sp.of (by decide +kernel) rfl (Nat.le_of_ble_eq_true rfl) ?_
  unfold F_X8_hasPowers at hF
  refine V_aload_n dX8_hasPowers_0 rfl ?_
  refine X_gI G dX8_hasPowers_1 fX8_102 ht.1 rfl ?_
  refine V_if_eq (tgt := 43) dX8_hasPowers_4 (by decide) (fun c => ?_) (fun c => ?_)
  · replace hF := (if_pos c).symm.trans hF
    refine V_iconst (v := 0) dX8_hasPowers_43 (by decide) ?_
    cases hF
    exact V_ireturn dX8_hasPowers_44 rfl (by decide) ⟨rfl, rfl⟩
  · replace hF := (if_neg c).symm.trans hF
    refine V_iload_n dX8_hasPowers_7 rfl ?_
    refine V_if_lt (tgt := 43) dX8_hasPowers_8 (by decide) (fun c => ?_) (fun c => ?_)
    · replace hF := (if_pos c).symm.trans hF
      refine V_iconst (v := 0) dX8_hasPowers_43 (by decide) ?_
      cases hF
      exact V_ireturn dX8_hasPowers_44 rfl (by decide) ⟨rfl, rfl⟩
    · replace hF := (if_neg c).symm.trans hF
      refine V_iload_n dX8_hasPowers_11 rfl ?_
      refine V_if_lt (tgt := 43) dX8_hasPowers_12 (by decide) (fun c => ?_) (fun c => ?_)
      · replace hF := (if_pos c).symm.trans hF
        refine V_iconst (v := 0) dX8_hasPowers_43 (by decide) ?_
        cases hF
        exact V_ireturn dX8_hasPowers_44 rfl (by decide) ⟨rfl, rfl⟩
      · replace hF := (if_neg c).symm.trans hF
        refine V_iload_n dX8_hasPowers_15 rfl ?_
        refine V_if_lt (tgt := 43) dX8_hasPowers_16 (by decide) (fun c => ?_) (fun c => ?_)
        · replace hF := (if_pos c).symm.trans hF
          refine V_iconst (v := 0) dX8_hasPowers_43 (by decide) ?_
          cases hF
          exact V_ireturn dX8_hasPowers_44 rfl (by decide) ⟨rfl, rfl⟩
        · replace hF := (if_neg c).symm.trans hF
          refine V_iload_n dX8_hasPowers_19 rfl ?_
          refine V_i2l dX8_hasPowers_20 ?_
          refine V_iload_n dX8_hasPowers_21 rfl ?_
          refine V_i2l dX8_hasPowers_22 ?_
          refine V_ladd dX8_hasPowers_23 ?_
          refine V_iload_n dX8_hasPowers_24 rfl ?_
          refine V_i2l dX8_hasPowers_25 ?_
          refine V_ladd dX8_hasPowers_26 ?_
          refine V_aload_n dX8_hasPowers_27 rfl ?_
          obtain ⟨b1, hrb1, hF⟩ := bd hF
          obtain ⟨hb1, hF⟩ := gv_in hF
          replace hb1 := ckX3_ok hb1
          refine X_gR G dX8_hasPowers_28 fX8_70 ht.1 rfl hrb1 ?_
          refine X_gI G dX8_hasPowers_31 fX8_187 hb1.1 rfl ?_
          refine V_i2l dX8_hasPowers_34 ?_
          refine V_lcmp dX8_hasPowers_35 ?_
          refine V_if_ne (tgt := 43) dX8_hasPowers_36 (by decide) (fun c => ?_) (fun c => ?_)
          · replace hF := (if_neg c).symm.trans hF
            refine V_iconst (v := 0) dX8_hasPowers_43 (by decide) ?_
            cases hF
            exact V_ireturn dX8_hasPowers_44 rfl (by decide) ⟨rfl, rfl⟩
          · replace hF := (if_pos c).symm.trans hF
            refine V_iconst (v := 1) dX8_hasPowers_39 (by decide) ?_
            refine V_goto (tgt := 44) dX8_hasPowers_40 (by decide) ?_
            cases hF
            exact V_ireturn dX8_hasPowers_44 rfl (by decide) ⟨rfl, rfl⟩
set_option maxRecDepth 100000 in
set_option maxHeartbeats 4000000 in
theorem s_X8_powersCode {l : Launch} {s0 : State} {D : va_G} {a0 : Array Value} {sh : List Sh} {f : Nat} {S : St} {p0 : Int32} {p1 : Int32} {p2 : Int32} {r : Int32} (G : GC l s0 D a0) (hF : F_X8_powersCode sh f S p0 p1 p2 = some r) {d : Nat} (hd : 1 ≤ d) : Sp l s0 D d 0 0 mX8_powersCode (fun v h => v = some (.int r) ∧ h = wd s0.heap.size sh S) v_noX [.int p0, .int p1, .int p2] (wd s0.heap.size sh S) := by
  obtain ⟨d, rfl⟩ : ∃ e, d = e + 1 := ⟨d - 1, by omega⟩
  refine Sp.of (by decide +kernel) rfl (Nat.le_of_ble_eq_true rfl) ?_
  unfold F_X8_powersCode at hF
  refine V_iload_n dX8_powersCode_0 rfl ?_
  refine V_iconst (v := 4) dX8_powersCode_1 (by decide) ?_
  refine V_ishl dX8_powersCode_2 ?_
  refine V_iload_n dX8_powersCode_3 rfl ?_
  refine V_iconst (v := 2) dX8_powersCode_4 (by decide) ?_
  refine V_ishl dX8_powersCode_5 ?_
  refine V_iadd dX8_powersCode_6 ?_
  refine V_iload_n dX8_powersCode_7 rfl ?_
  refine V_iadd dX8_powersCode_8 ?_
  cases hF
  exact V_ireturn dX8_powersCode_9 rfl rfl ⟨rfl, rfl⟩
set_option maxRecDepth 100000 in
set_option maxHeartbeats 4000000 in
theorem w_X8_exactly_L114 {l : Launch} {s0 : State} {D : va_G} {a0 : Array Value} {sh : List Sh} {f : Nat} {t : Nat} {p1 : Int32} {p2 : Int32} {p3 : Int32} (ht : isX8 sh t) {r : Int64 × St} {d : Nat} (G : GC l s0 D a0) (hd : 3 ≤ d + 1) {k61 : St → Int32 → Option (Int64 × St)} (hk61 : ∀ (S : St) (l4 : Int32), k61 S l4 = some r → V l s0 D (d + 1) 0 0 mX8_exactly (fun v h => v = some (.long r.1) ∧ h = wd s0.heap.size sh r.2) v_noX 61 [(0, .ref (s0.heap.size + t)), (1, .int p1), (2, .int p2), (3, .int p3), (4, .int l4)] [] (wd s0.heap.size sh S)) : ∀ (S : St) (l4 : Int32) (v0 : Int64), F_X8_exactly_L114 sh f t p1 p2 p3 k61 S l4 v0 = some r → V l s0 D (d + 1) 0 0 mX8_exactly (fun v h => v = some (.long r.1) ∧ h = wd s0.heap.size sh r.2) v_noX 114 [(0, .ref (s0.heap.size + t)), (1, .int p1), (2, .int p2), (3, .int p3), (4, .int l4)] [.long v0] (wd s0.heap.size sh S) := by
  intro S l4 v0 hF
  unfold F_X8_exactly_L114 at hF
  refine V_lstore dX8_exactly_114 (by decide) ?_
  refine V_aload_n dX8_exactly_116 rfl ?_
  refine X_gC G dX8_exactly_117 fX8_26 ht.1 rfl ?_
  refine V_lload dX8_exactly_120 rfl ?_
  refine V_aload_n dX8_exactly_122 rfl ?_
  obtain ⟨b1, hrb1, hF⟩ := bd hF
  obtain ⟨hb1, hF⟩ := gv_in hF
  replace hb1 := ckX3_ok hb1
  refine X_gR G dX8_exactly_123 fX8_70 ht.1 rfl hrb1 ?_
  refine X_gC G dX8_exactly_126 fX8_287 hb1.1 rfl ?_
  refine V_iload dX8_exactly_129 rfl ?_
  obtain ⟨hz, hF⟩ := gv_out hF
  refine X_iald dX8_exactly_131 hb1.2.2.2.2.2.2.2.2.2.2.2.2.2.1 hz ?_
  refine V_i2l dX8_exactly_132 ?_
  refine V_lmul dX8_exactly_133 ?_
  refine V_aload_n dX8_exactly_134 rfl ?_
  obtain ⟨b2, hrb2, hF⟩ := bd hF
  obtain ⟨hb2, hF⟩ := gv_in hF
  replace hb2 := ckX3_ok hb2
  refine X_gR G dX8_exactly_135 fX8_70 ht.1 rfl hrb2 ?_
  refine V_iload dX8_exactly_138 rfl ?_
  obtain ⟨y3, hc, hF⟩ := bd hF
  refine V_callV G dX8_exactly_140 kX8_273 (wd_at hb2.1) ⟨by decide, rfl⟩ (s_X3_divisor hb2 G hc (by omega)) rfl (Nat.le_of_ble_eq_true rfl) (fun _ _ _ q => q.elim) ?_
  rintro _ _ ⟨rfl, rfl⟩
  obtain ⟨y4, hc, hF⟩ := bd hF
  refine V_callV G dX8_exactly_143 kX8_290 (wd_at ht.2.2.2.1.1) ⟨by decide, rfl⟩ (s_X2_add ht.2.2.2.1 G hc (by omega)) rfl (Nat.le_of_ble_eq_true rfl) (fun _ _ _ q => q.elim) ?_
  rintro _ _ ⟨rfl, rfl⟩
  obtain ⟨x5, qx5, hF⟩ := bnd_g hF
  refine B_iinc (v := 1) qx5 dX8_exactly_146 rfl (by decide) (by decide) ?_
  refine V_goto (tgt := 61) dX8_exactly_149 (by decide) ?_
  exact V_lv' (hk61 _ _ hF) (v_all_c rfl (v_all_c rfl (v_all_c rfl (v_all_c rfl (v_all_c rfl v_all_n)))))
set_option maxRecDepth 100000 in
set_option maxHeartbeats 4000000 in
theorem w_X8_exactly_L61 {l : Launch} {s0 : State} {D : va_G} {a0 : Array Value} {sh : List Sh} {f : Nat} {t : Nat} {p1 : Int32} {p2 : Int32} {p3 : Int32} (ht : isX8 sh t) {r : Int64 × St} {d : Nat} (G : GC l s0 D a0) (hd : 3 ≤ d + 1) : ∀ (n : Nat) (S : St) (l4 : Int32), F_X8_exactly_L61 sh f t p1 p2 p3 n S l4 = some r → V l s0 D (d + 1) 0 0 mX8_exactly (fun v h => v = some (.long r.1) ∧ h = wd s0.heap.size sh r.2) v_noX 61 [(0, .ref (s0.heap.size + t)), (1, .int p1), (2, .int p2), (3, .int p3), (4, .int l4)] [] (wd s0.heap.size sh S) := by
  intro n
  induction n with
  | zero => intro S l4 hF; cases hF
  | succ n ih =>
    intro S l4 hF
    unfold F_X8_exactly_L61 at hF
    refine V_iload dX8_exactly_61 rfl ?_
    refine V_aload_n dX8_exactly_63 rfl ?_
    obtain ⟨b1, hrb1, hF⟩ := bd hF
    obtain ⟨hb1, hF⟩ := gv_in hF
    replace hb1 := ckX3_ok hb1
    refine X_gR G dX8_exactly_64 fX8_70 ht.1 rfl hrb1 ?_
    refine X_gI G dX8_exactly_67 fX8_267 hb1.1 rfl ?_
    refine V_icmp_ge (tgt := 152) dX8_exactly_70 (by decide) (fun c => ?_) (fun c => ?_)
    · replace hF := (if_pos c).symm.trans hF
      refine V_aload_n dX8_exactly_152 rfl ?_
      refine X_gC G dX8_exactly_153 fX8_26 ht.1 rfl ?_
      obtain ⟨y2, hc, hF⟩ := bd hF
      refine V_callV G dX8_exactly_156 kX8_293 (wd_at ht.2.2.2.1.1) ⟨by decide, rfl⟩ (s_X2_reduce ht.2.2.2.1 G hc (by omega)) rfl (Nat.le_of_ble_eq_true rfl) (fun _ _ _ q => q.elim) ?_
      rintro _ _ ⟨rfl, rfl⟩
      refine V_aload_n dX8_exactly_159 rfl ?_
      refine X_gC G dX8_exactly_160 fX8_26 ht.1 rfl ?_
      refine X_gI G dX8_exactly_163 fX8_296 ht.2.2.2.1.1 rfl ?_
      refine V_if_ne (tgt := 173) dX8_exactly_166 (by decide) (fun c => ?_) (fun c => ?_)
      · replace hF := (if_neg c).symm.trans hF
        refine V_iload_n dX8_exactly_173 rfl ?_
        refine V_if_eq (tgt := 187) dX8_exactly_174 (by decide) (fun c => ?_) (fun c => ?_)
        · replace hF := (if_pos c).symm.trans hF
          refine V_aload_n dX8_exactly_187 rfl ?_
          refine X_gC G dX8_exactly_188 fX8_26 ht.1 rfl ?_
          refine X_gJ G dX8_exactly_191 fX8_300 ht.2.2.2.1.1 rfl ?_
          cases hF
          exact V_lreturn dX8_exactly_194 rfl ⟨rfl, rfl⟩
        · replace hF := (if_neg c).symm.trans hF
          refine V_aload_n dX8_exactly_177 rfl ?_
          refine X_gC G dX8_exactly_178 fX8_26 ht.1 rfl ?_
          refine X_gJ G dX8_exactly_181 fX8_299 ht.2.2.2.1.1 rfl ?_
          refine V_goto (tgt := 194) dX8_exactly_184 (by decide) ?_
          cases hF
          exact V_lreturn dX8_exactly_194 rfl ⟨rfl, rfl⟩
      · replace hF := (if_pos c).symm.trans hF
        refine V_ldc2 dX8_exactly_169 qX8_208 ?_
        cases hF
        exact V_lreturn dX8_exactly_172 rfl ⟨rfl, rfl⟩
    · replace hF := (if_neg c).symm.trans hF
      refine V_aload_n dX8_exactly_73 rfl ?_
      obtain ⟨b3, hrb3, hF⟩ := bd hF
      obtain ⟨hb3, hF⟩ := gv_in hF
      replace hb3 := ckX3_ok hb3
      refine X_gR G dX8_exactly_74 fX8_70 ht.1 rfl hrb3 ?_
      refine X_gC G dX8_exactly_77 fX8_270 hb3.1 rfl ?_
      refine V_iload dX8_exactly_80 rfl ?_
      obtain ⟨hz, hF⟩ := gv_out hF
      refine X_iald dX8_exactly_82 hb3.2.2.2.2.2.2.2.2.2.2.2.2.2.2.1 hz ?_
      refine V_iload_n dX8_exactly_83 rfl ?_
      refine V_icmp_ne (tgt := 146) dX8_exactly_84 (by decide) (fun c => ?_) (fun c => ?_)
      · replace hF := (if_neg c).symm.trans hF
        obtain ⟨x4, qx4, hF⟩ := bnd_g hF
        refine B_iinc (v := 1) qx4 dX8_exactly_146 rfl (by decide) (by decide) ?_
        refine V_goto (tgt := 61) dX8_exactly_149 (by decide) ?_
        exact V_lv' (ih _ _ hF) (v_all_c rfl (v_all_c rfl (v_all_c rfl (v_all_c rfl (v_all_c rfl v_all_n)))))
      · replace hF := (if_pos c).symm.trans hF
        refine V_iload_n dX8_exactly_87 rfl ?_
        refine V_if_eq (tgt := 105) dX8_exactly_88 (by decide) (fun c => ?_) (fun c => ?_)
        · replace hF := (if_pos c).symm.trans hF
          refine V_aload_n dX8_exactly_105 rfl ?_
          obtain ⟨b5, hrb5, hF⟩ := bd hF
          obtain ⟨hb5, hF⟩ := gv_in hF
          replace hb5 := ckX3_ok hb5
          refine X_gR G dX8_exactly_106 fX8_70 ht.1 rfl hrb5 ?_
          refine V_iload dX8_exactly_109 rfl ?_
          obtain ⟨y6, hc, hF⟩ := bd hF
          refine V_callV G dX8_exactly_111 kX8_284 (wd_at hb5.1) ⟨by decide, rfl⟩ (s_X3_signedWays hb5 G hc (by omega)) rfl (Nat.le_of_ble_eq_true rfl) (fun _ _ _ q => q.elim) ?_
          rintro _ _ ⟨rfl, rfl⟩
          exact V_lv' (w_X8_exactly_L114 ht G hd ih _ _ _ hF) (v_all_c rfl (v_all_c rfl (v_all_c rfl (v_all_c rfl (v_all_c rfl v_all_n)))))
        · replace hF := (if_neg c).symm.trans hF
          refine V_aload_n dX8_exactly_91 rfl ?_
          obtain ⟨b7, hrb7, hF⟩ := bd hF
          obtain ⟨hb7, hF⟩ := gv_in hF
          replace hb7 := ckX3_ok hb7
          refine X_gR G dX8_exactly_92 fX8_70 ht.1 rfl hrb7 ?_
          refine X_gC G dX8_exactly_95 fX8_281 hb7.1 rfl ?_
          refine V_iload dX8_exactly_98 rfl ?_
          obtain ⟨hz, hF⟩ := gv_out hF
          refine X_iald dX8_exactly_100 hb7.2.2.2.2.2.2.2.2.2.2.2.2.2.2.2.1 hz ?_
          refine V_i2l dX8_exactly_101 ?_
          refine V_goto (tgt := 114) dX8_exactly_102 (by decide) ?_
          exact V_lv' (w_X8_exactly_L114 ht G hd ih _ _ _ hF) (v_all_c rfl (v_all_c rfl (v_all_c rfl (v_all_c rfl (v_all_c rfl v_all_n)))))
set_option maxRecDepth 100000 in
set_option maxHeartbeats 4000000 in
theorem w_X8_exactly_L10 {l : Launch} {s0 : State} {D : va_G} {a0 : Array Value} {sh : List Sh} {f : Nat} {t : Nat} {p1 : Int32} {p2 : Int32} {p3 : Int32} (ht : isX8 sh t) {r : Int64 × St} {d : Nat} (G : GC l s0 D a0) (hd : 3 ≤ d + 1) : ∀ (n : Nat) (S : St) (l4 : Int32), F_X8_exactly_L10 sh f t p1 p2 p3 n S l4 = some r → V l s0 D (d + 1) 0 0 mX8_exactly (fun v h => v = some (.long r.1) ∧ h = wd s0.heap.size sh r.2) v_noX 10 [(0, .ref (s0.heap.size + t)), (1, .int p1), (2, .int p2), (3, .int p3), (4, .int l4)] [] (wd s0.heap.size sh S) := by
  intro n
  induction n with
  | zero => intro S l4 hF; cases hF
  | succ n ih =>
    intro S l4 hF
    unfold F_X8_exactly_L10 at hF
    refine V_iload dX8_exactly_10 rfl ?_
    refine V_aload_n dX8_exactly_12 rfl ?_
    obtain ⟨b1, hrb1, hF⟩ := bd hF
    obtain ⟨hb1, hF⟩ := gv_in hF
    replace hb1 := ckX3_ok hb1
    refine X_gR G dX8_exactly_13 fX8_70 ht.1 rfl hrb1 ?_
    refine X_gI G dX8_exactly_16 fX8_267 hb1.1 rfl ?_
    refine V_icmp_ge (tgt := 58) dX8_exactly_19 (by decide) (fun c => ?_) (fun c => ?_)
    · replace hF := (if_pos c).symm.trans hF
      refine V_iconst (v := 0) dX8_exactly_58 (by decide) ?_
      refine V_istore dX8_exactly_59 (by decide) ?_
      exact V_lv' (w_X8_exactly_L61 ht G hd f _ _ hF) (v_all_c rfl (v_all_c rfl (v_all_c rfl (v_all_c rfl (v_all_c rfl v_all_n)))))
    · replace hF := (if_neg c).symm.trans hF
      refine V_aload_n dX8_exactly_22 rfl ?_
      obtain ⟨b2, hrb2, hF⟩ := bd hF
      obtain ⟨hb2, hF⟩ := gv_in hF
      replace hb2 := ckX3_ok hb2
      refine X_gR G dX8_exactly_23 fX8_70 ht.1 rfl hrb2 ?_
      refine X_gC G dX8_exactly_26 fX8_270 hb2.1 rfl ?_
      refine V_iload dX8_exactly_29 rfl ?_
      obtain ⟨hz, hF⟩ := gv_out hF
      refine X_iald dX8_exactly_31 hb2.2.2.2.2.2.2.2.2.2.2.2.2.2.2.1 hz ?_
      refine V_iload_n dX8_exactly_32 rfl ?_
      refine V_icmp_ne (tgt := 52) dX8_exactly_33 (by decide) (fun c => ?_) (fun c => ?_)
      · replace hF := (if_neg c).symm.trans hF
        obtain ⟨x3, qx3, hF⟩ := bnd_g hF
        refine B_iinc (v := 1) qx3 dX8_exactly_52 rfl (by decide) (by decide) ?_
        refine V_goto (tgt := 10) dX8_exactly_55 (by decide) ?_
        exact V_lv' (ih _ _ hF) (v_all_c rfl (v_all_c rfl (v_all_c rfl (v_all_c rfl (v_all_c rfl v_all_n)))))
      · replace hF := (if_pos c).symm.trans hF
        refine V_aload_n dX8_exactly_36 rfl ?_
        refine X_gC G dX8_exactly_37 fX8_26 ht.1 rfl ?_
        refine V_aload_n dX8_exactly_40 rfl ?_
        obtain ⟨b4, hrb4, hF⟩ := bd hF
        obtain ⟨hb4, hF⟩ := gv_in hF
        replace hb4 := ckX3_ok hb4
        refine X_gR G dX8_exactly_41 fX8_70 ht.1 rfl hrb4 ?_
        refine V_iload dX8_exactly_44 rfl ?_
        obtain ⟨y5, hc, hF⟩ := bd hF
        refine V_callV G dX8_exactly_46 kX8_273 (wd_at hb4.1) ⟨by decide, rfl⟩ (s_X3_divisor hb4 G hc (by omega)) rfl (Nat.le_of_ble_eq_true rfl) (fun _ _ _ q => q.elim) ?_
        rintro _ _ ⟨rfl, rfl⟩
        obtain ⟨y6, hc, hF⟩ := bd hF
        refine V_callV G dX8_exactly_49 kX8_277 (wd_at ht.2.2.2.1.1) ⟨by decide, rfl⟩ (s_X2_widen ht.2.2.2.1 G hc (by omega)) rfl (Nat.le_of_ble_eq_true rfl) (fun _ _ _ q => q.elim) ?_
        rintro _ _ ⟨rfl, rfl⟩
        obtain ⟨x7, qx7, hF⟩ := bnd_g hF
        refine B_iinc (v := 1) qx7 dX8_exactly_52 rfl (by decide) (by decide) ?_
        refine V_goto (tgt := 10) dX8_exactly_55 (by decide) ?_
        exact V_lv' (ih _ _ hF) (v_all_c rfl (v_all_c rfl (v_all_c rfl (v_all_c rfl (v_all_c rfl v_all_n)))))
set_option maxRecDepth 100000 in
set_option maxHeartbeats 4000000 in
theorem s_X8_exactly {l : Launch} {s0 : State} {D : va_G} {a0 : Array Value} {sh : List Sh} {f : Nat} {S : St} {t : Nat} {p1 : Int32} {p2 : Int32} {p3 : Int32} (ht : isX8 sh t) {r : Int64 × St} (G : GC l s0 D a0) (hF : F_X8_exactly sh f S t p1 p2 p3 = some r) {d : Nat} (hd : 3 ≤ d) : Sp l s0 D d 0 0 mX8_exactly (fun v h => v = some (.long r.1) ∧ h = wd s0.heap.size sh r.2) v_noX [.ref (s0.heap.size + t), .int p1, .int p2, .int p3] (wd s0.heap.size sh S) := by
  obtain ⟨d, rfl⟩ : ∃ e, d = e + 1 := ⟨d - 1, by omega⟩
  refine Sp.of (by decide +kernel) rfl (Nat.le_of_ble_eq_true rfl) ?_
  unfold F_X8_exactly at hF
  refine V_aload_n dX8_exactly_0 rfl ?_
  refine X_gC G dX8_exactly_1 fX8_26 ht.1 rfl ?_
  obtain ⟨y1, hc, hF⟩ := bd hF
  refine V_callV G dX8_exactly_4 kX8_266 (wd_at ht.2.2.2.1.1) ⟨by decide, rfl⟩ (s_X2_clear ht.2.2.2.1 G hc (by omega)) rfl (Nat.le_of_ble_eq_true rfl) (fun _ _ _ q => q.elim) ?_
  rintro _ _ ⟨rfl, rfl⟩
  refine V_iconst (v := 0) dX8_exactly_7 (by decide) ?_
  refine V_istore dX8_exactly_8 (by decide) ?_
  exact V_lv' (w_X8_exactly_L10 ht G hd f _ _ hF) (v_all_c rfl (v_all_c rfl (v_all_c rfl (v_all_c rfl (v_all_c rfl v_all_n)))))
set_option maxRecDepth 100000 in
set_option maxHeartbeats 4000000 in
theorem s_X8_sum {l : Launch} {s0 : State} {D : va_G} {a0 : Array Value} {sh : List Sh} {f : Nat} {S : St} {t : Nat} {p1 : Int32} {p2 : Int32} {p3 : Int32} {p4 : Int32} (ht : isX8 sh t) {r : Int64 × St} (G : GC l s0 D a0) (hF : F_X8_sum sh f S t p1 p2 p3 p4 = some r) {d : Nat} (hd : 4 ≤ d) : Sp l s0 D d 0 0 mX8_sum (fun v h => v = some (.long r.1) ∧ h = wd s0.heap.size sh r.2) v_noX [.ref (s0.heap.size + t), .int p1, .int p2, .int p3, .int p4] (wd s0.heap.size sh S) := by
  obtain ⟨d, rfl⟩ : ∃ e, d = e + 1 := ⟨d - 1, by omega⟩
  refine Sp.of (by decide +kernel) rfl (Nat.le_of_ble_eq_true rfl) ?_
  unfold F_X8_sum at hF
  refine V_aload_n dX8_sum_0 rfl ?_
  refine V_iload_n dX8_sum_1 rfl ?_
  refine V_iload_n dX8_sum_2 rfl ?_
  refine V_iload_n dX8_sum_3 rfl ?_
  obtain ⟨y1, hc, hF⟩ := bd hF
  refine V_callV G dX8_sum_4 kX8_204 (wd_at ht.1) ⟨by decide, rfl⟩ (s_X8_hasPowers ht G hc (by omega)) rfl (Nat.le_of_ble_eq_true rfl) (fun _ _ _ q => q.elim) ?_
  rintro _ _ ⟨rfl, rfl⟩
  refine V_if_ne (tgt := 14) dX8_sum_7 (by decide) (fun c => ?_) (fun c => ?_)
  · replace hF := (if_neg c).symm.trans hF
    refine V_aload_n dX8_sum_14 rfl ?_
    refine V_iload_n dX8_sum_15 rfl ?_
    refine V_iload_n dX8_sum_16 rfl ?_
    refine V_iload_n dX8_sum_17 rfl ?_
    obtain ⟨y2, hc, hF⟩ := bd hF
    refine V_callS dX8_sum_18 kX8_210 (s_X8_powersCode G hc (by omega)) rfl (Nat.le_of_ble_eq_true rfl) (fun _ _ _ q => q.elim) ?_
    rintro _ _ ⟨rfl, rfl⟩
    refine V_iconst (v := 0) dX8_sum_21 (by decide) ?_
    refine V_iload dX8_sum_22 rfl ?_
    obtain ⟨y3, hc, hF⟩ := bd hF
    refine V_callV G dX8_sum_24 kX8_214 (wd_at ht.1) ⟨by decide, rfl⟩ (s_X8_exactly ht G hc (by omega)) rfl (Nat.le_of_ble_eq_true rfl) (fun _ _ _ q => q.elim) ?_
    rintro _ _ ⟨rfl, rfl⟩
    cases hF
    exact V_lreturn dX8_sum_27 rfl ⟨rfl, rfl⟩
  · replace hF := (if_pos c).symm.trans hF
    refine V_ldc2 dX8_sum_10 qX8_208 ?_
    cases hF
    exact V_lreturn dX8_sum_13 rfl ⟨rfl, rfl⟩
set_option maxRecDepth 100000 in
set_option maxHeartbeats 4000000 in
theorem s_X8_byPairings {l : Launch} {s0 : State} {D : va_G} {a0 : Array Value} {sh : List Sh} {f : Nat} {S : St} {t : Nat} {p1 : Int32} {p2 : Int32} {p3 : Int32} {p4 : Int32} (ht : isX8 sh t) {r : Int64 × St} (G : GC l s0 D a0) (hF : F_X8_byPairings sh f S t p1 p2 p3 p4 = some r) {d : Nat} (hd : 15 ≤ d) : Sp l s0 D d 0 0 mX8_byPairings (fun v h => v = some (.long r.1) ∧ h = wd s0.heap.size sh r.2) v_noX [.ref (s0.heap.size + t), .int p1, .int p2, .int p3, .int p4] (wd s0.heap.size sh S) := by
  obtain ⟨d, rfl⟩ : ∃ e, d = e + 1 := ⟨d - 1, by omega⟩
  refine Sp.of (by decide +kernel) rfl (Nat.le_of_ble_eq_true rfl) ?_
  unfold F_X8_byPairings at hF
  refine V_aload_n dX8_byPairings_0 rfl ?_
  refine V_iload_n dX8_byPairings_1 rfl ?_
  refine V_iload_n dX8_byPairings_2 rfl ?_
  refine V_iload_n dX8_byPairings_3 rfl ?_
  obtain ⟨y1, hc, hF⟩ := bd hF
  refine V_callV G dX8_byPairings_4 kX8_204 (wd_at ht.1) ⟨by decide, rfl⟩ (s_X8_hasPowers ht G hc (by omega)) rfl (Nat.le_of_ble_eq_true rfl) (fun _ _ _ q => q.elim) ?_
  rintro _ _ ⟨rfl, rfl⟩
  refine V_if_ne (tgt := 14) dX8_byPairings_7 (by decide) (fun c => ?_) (fun c => ?_)
  · replace hF := (if_neg c).symm.trans hF
    refine V_aload_n dX8_byPairings_14 rfl ?_
    refine X_gC G dX8_byPairings_15 fX8_19 ht.1 rfl ?_
    refine V_aload_n dX8_byPairings_18 rfl ?_
    obtain ⟨b2, hrb2, hF⟩ := bd hF
    obtain ⟨hb2, hF⟩ := gv_in hF
    replace hb2 := ckX0_ok hb2
    refine X_gR G dX8_byPairings_19 fX8_63 ht.1 rfl hrb2 ?_
    refine V_aload_n dX8_byPairings_22 rfl ?_
    refine X_gC G dX8_byPairings_23 fX8_33 ht.1 rfl ?_
    refine V_aload_n dX8_byPairings_26 rfl ?_
    obtain ⟨b3, hrb3, hF⟩ := bd hF
    obtain ⟨hb3, hF⟩ := gv_in hF
    replace hb3 := ckX3_ok hb3
    refine X_gR G dX8_byPairings_27 fX8_70 ht.1 rfl hrb3 ?_
    refine V_iload_n dX8_byPairings_30 rfl ?_
    refine V_iload_n dX8_byPairings_31 rfl ?_
    refine V_iload_n dX8_byPairings_32 rfl ?_
    obtain ⟨y4, hc, hF⟩ := bd hF
    refine V_callS dX8_byPairings_33 kX8_210 (s_X8_powersCode G hc (by omega)) rfl (Nat.le_of_ble_eq_true rfl) (fun _ _ _ q => q.elim) ?_
    rintro _ _ ⟨rfl, rfl⟩
    obtain ⟨y5, hc, hF⟩ := bd hF
    refine V_callV G dX8_byPairings_36 kX8_218 (wd_at ht.2.2.1.1) ⟨by decide, rfl⟩ (s_X5_walkAll ht.2.2.1 hb2 ht.2.2.2.2.1 hb3 G hc (by omega)) rfl (Nat.le_of_ble_eq_true rfl) (fun _ _ _ q => q.elim) ?_
    rintro _ _ ⟨rfl, rfl⟩
    refine V_aload_n dX8_byPairings_39 rfl ?_
    refine V_iload_n dX8_byPairings_40 rfl ?_
    refine V_iload_n dX8_byPairings_41 rfl ?_
    refine V_iload_n dX8_byPairings_42 rfl ?_
    obtain ⟨y6, hc, hF⟩ := bd hF
    refine V_callS dX8_byPairings_43 kX8_210 (s_X8_powersCode G hc (by omega)) rfl (Nat.le_of_ble_eq_true rfl) (fun _ _ _ q => q.elim) ?_
    rintro _ _ ⟨rfl, rfl⟩
    refine V_iconst (v := 1) dX8_byPairings_46 (by decide) ?_
    refine V_iload dX8_byPairings_47 rfl ?_
    obtain ⟨y7, hc, hF⟩ := bd hF
    refine V_callV G dX8_byPairings_49 kX8_214 (wd_at ht.1) ⟨by decide, rfl⟩ (s_X8_exactly ht G hc (by omega)) rfl (Nat.le_of_ble_eq_true rfl) (fun _ _ _ q => q.elim) ?_
    rintro _ _ ⟨rfl, rfl⟩
    cases hF
    exact V_lreturn dX8_byPairings_52 rfl ⟨rfl, rfl⟩
  · replace hF := (if_pos c).symm.trans hF
    refine V_ldc2 dX8_byPairings_10 qX8_208 ?_
    cases hF
    exact V_lreturn dX8_byPairings_13 rfl ⟨rfl, rfl⟩
set_option maxRecDepth 100000 in
set_option maxHeartbeats 4000000 in
theorem s_X8_allowed {l : Launch} {s0 : State} {D : va_G} {a0 : Array Value} {sh : List Sh} {f : Nat} {S : St} {t : Nat} {p1 : Int32} (ht : isX8 sh t) {r : Int32 × St} (G : GC l s0 D a0) (hF : F_X8_allowed sh f S t p1 = some r) {d : Nat} (hd : 1 ≤ d) : Sp l s0 D d 0 0 mX8_allowed (fun v h => v = some (.int r.1) ∧ h = wd s0.heap.size sh r.2) v_noX [.ref (s0.heap.size + t), .int p1] (wd s0.heap.size sh S) := by
  obtain ⟨d, rfl⟩ : ∃ e, d = e + 1 := ⟨d - 1, by omega⟩
  refine Sp.of (by decide +kernel) rfl (Nat.le_of_ble_eq_true rfl) ?_
  unfold F_X8_allowed at hF
  refine V_aload_n dX8_allowed_0 rfl ?_
  refine V_iload_n dX8_allowed_1 rfl ?_
  refine X_pI G dX8_allowed_2 gX8_106 ht.1 rfl rfl rfl ?_
  obtain ⟨S1, qS1, hF⟩ := bnd_g hF
  refine V_eqS qS1 ?_
  refine V_iload_n dX8_allowed_5 rfl ?_
  refine V_if_ne (tgt := 13) dX8_allowed_6 (by decide) (fun c => ?_) (fun c => ?_)
  · replace hF := (if_neg c).symm.trans hF
    refine V_iconst (v := 0) dX8_allowed_13 (by decide) ?_
    cases hF
    exact V_ireturn dX8_allowed_14 rfl (by decide) ⟨rfl, rfl⟩
  · replace hF := (if_pos c).symm.trans hF
    refine V_iconst (v := 1) dX8_allowed_9 (by decide) ?_
    refine V_goto (tgt := 14) dX8_allowed_10 (by decide) ?_
    cases hF
    exact V_ireturn dX8_allowed_14 rfl (by decide) ⟨rfl, rfl⟩
set_option maxRecDepth 100000 in
set_option maxHeartbeats 4000000 in
theorem s_X8_number {l : Launch} {s0 : State} {D : va_G} {a0 : Array Value} {sh : List Sh} {f : Nat} {S : St} {t : Nat} {p1 : Int32} {p2 : Int32} (ht : isX8 sh t) {r : Int32 × St} (G : GC l s0 D a0) (hF : F_X8_number sh f S t p1 p2 = some r) {d : Nat} (hd : 2 ≤ d) : Sp l s0 D d 0 0 mX8_number (fun v h => v = some (.int r.1) ∧ h = wd s0.heap.size sh r.2) v_noX [.ref (s0.heap.size + t), .int p1, .int p2] (wd s0.heap.size sh S) := by
  obtain ⟨d, rfl⟩ : ∃ e, d = e + 1 := ⟨d - 1, by omega⟩
  refine Sp.of (by decide +kernel) rfl (Nat.le_of_ble_eq_true rfl) ?_
  unfold F_X8_number at hF
  refine V_iload_n dX8_number_0 rfl ?_
  refine V_if_lt (tgt := 15) dX8_number_1 (by decide) (fun c => ?_) (fun c => ?_)
  · replace hF := (if_pos c).symm.trans hF
    refine V_aload_n dX8_number_15 rfl ?_
    refine V_iconst (v := 1) dX8_number_16 (by decide) ?_
    obtain ⟨y1, hc, hF⟩ := bd hF
    refine V_callV G dX8_number_17 kX8_223 (wd_at ht.1) ⟨by decide, rfl⟩ (s_X8_allowed ht G hc (by omega)) rfl (Nat.le_of_ble_eq_true rfl) (fun _ _ _ q => q.elim) ?_
    rintro _ _ ⟨rfl, rfl⟩
    obtain ⟨hz, hF⟩ := gv_out hF
    cases hF
    exact V_ireturn dX8_number_20 rfl (nb_n hz) ⟨rfl, rfl⟩
  · replace hF := (if_neg c).symm.trans hF
    refine V_iload_n dX8_number_4 rfl ?_
    refine V_aload_n dX8_number_5 rfl ?_
    refine X_gC G dX8_number_6 fX8_33 ht.1 rfl ?_
    refine X_gI G dX8_number_9 fX8_222 ht.2.2.2.2.1.1 rfl ?_
    refine V_icmp_lt (tgt := 21) dX8_number_12 (by decide) (fun c => ?_) (fun c => ?_)
    · replace hF := (if_pos c).symm.trans hF
      refine V_iload_n dX8_number_21 rfl ?_
      refine V_sipush (v := -999) dX8_number_22 (by decide) ?_
      refine V_icmp_lt (tgt := 35) dX8_number_25 (by decide) (fun c => ?_) (fun c => ?_)
      · replace hF := (if_pos c).symm.trans hF
        refine V_aload_n dX8_number_35 rfl ?_
        refine V_iconst (v := 2) dX8_number_36 (by decide) ?_
        obtain ⟨y2, hc, hF⟩ := bd hF
        refine V_callV G dX8_number_37 kX8_223 (wd_at ht.1) ⟨by decide, rfl⟩ (s_X8_allowed ht G hc (by omega)) rfl (Nat.le_of_ble_eq_true rfl) (fun _ _ _ q => q.elim) ?_
        rintro _ _ ⟨rfl, rfl⟩
        obtain ⟨hz, hF⟩ := gv_out hF
        cases hF
        exact V_ireturn dX8_number_40 rfl (nb_n hz) ⟨rfl, rfl⟩
      · replace hF := (if_neg c).symm.trans hF
        refine V_iload_n dX8_number_28 rfl ?_
        refine V_sipush (v := 999) dX8_number_29 (by decide) ?_
        refine V_icmp_le (tgt := 41) dX8_number_32 (by decide) (fun c => ?_) (fun c => ?_)
        · replace hF := (if_pos c).symm.trans hF
          refine V_aload_n dX8_number_41 rfl ?_
          refine X_gC G dX8_number_42 fX8_33 ht.1 rfl ?_
          refine X_gC G dX8_number_45 fX8_226 ht.2.2.2.2.1.1 rfl ?_
          refine V_iload_n dX8_number_48 rfl ?_
          refine V_iload_n dX8_number_49 rfl ?_
          obtain ⟨hz, hF⟩ := gv_out hF
          refine X_iast dX8_number_50 ht.2.2.2.2.1.2.2 hz ?_
          obtain ⟨S3, qS3, hF⟩ := bnd_g hF
          refine V_eqS qS3 ?_
          refine V_aload_n dX8_number_51 rfl ?_
          refine V_iconst (v := 0) dX8_number_52 (by decide) ?_
          obtain ⟨y4, hc, hF⟩ := bd hF
          refine V_callV G dX8_number_53 kX8_223 (wd_at ht.1) ⟨by decide, rfl⟩ (s_X8_allowed ht G hc (by omega)) rfl (Nat.le_of_ble_eq_true rfl) (fun _ _ _ q => q.elim) ?_
          rintro _ _ ⟨rfl, rfl⟩
          obtain ⟨hz, hF⟩ := gv_out hF
          cases hF
          exact V_ireturn dX8_number_56 rfl (nb_n hz) ⟨rfl, rfl⟩
        · replace hF := (if_neg c).symm.trans hF
          refine V_aload_n dX8_number_35 rfl ?_
          refine V_iconst (v := 2) dX8_number_36 (by decide) ?_
          obtain ⟨y5, hc, hF⟩ := bd hF
          refine V_callV G dX8_number_37 kX8_223 (wd_at ht.1) ⟨by decide, rfl⟩ (s_X8_allowed ht G hc (by omega)) rfl (Nat.le_of_ble_eq_true rfl) (fun _ _ _ q => q.elim) ?_
          rintro _ _ ⟨rfl, rfl⟩
          obtain ⟨hz, hF⟩ := gv_out hF
          cases hF
          exact V_ireturn dX8_number_40 rfl (nb_n hz) ⟨rfl, rfl⟩
    · replace hF := (if_neg c).symm.trans hF
      refine V_aload_n dX8_number_15 rfl ?_
      refine V_iconst (v := 1) dX8_number_16 (by decide) ?_
      obtain ⟨y6, hc, hF⟩ := bd hF
      refine V_callV G dX8_number_17 kX8_223 (wd_at ht.1) ⟨by decide, rfl⟩ (s_X8_allowed ht G hc (by omega)) rfl (Nat.le_of_ble_eq_true rfl) (fun _ _ _ q => q.elim) ?_
      rintro _ _ ⟨rfl, rfl⟩
      obtain ⟨hz, hF⟩ := gv_out hF
      cases hF
      exact V_ireturn dX8_number_20 rfl (nb_n hz) ⟨rfl, rfl⟩
set_option maxRecDepth 100000 in
set_option maxHeartbeats 4000000 in
theorem s_X8_letter {l : Launch} {s0 : State} {D : va_G} {a0 : Array Value} {sh : List Sh} {f : Nat} {S : St} {t : Nat} {p1 : Int32} {p2 : Int32} (ht : isX8 sh t) {r : Int32 × St} (G : GC l s0 D a0) (hF : F_X8_letter sh f S t p1 p2 = some r) {d : Nat} (hd : 2 ≤ d) : Sp l s0 D d 0 0 mX8_letter (fun v h => v = some (.int r.1) ∧ h = wd s0.heap.size sh r.2) v_noX [.ref (s0.heap.size + t), .int p1, .int p2] (wd s0.heap.size sh S) := by
  obtain ⟨d, rfl⟩ : ∃ e, d = e + 1 := ⟨d - 1, by omega⟩
  refine Sp.of (by decide +kernel) rfl (Nat.le_of_ble_eq_true rfl) ?_
  unfold F_X8_letter at hF
  refine V_aload_n dX8_letter_0 rfl ?_
  obtain ⟨b1, hrb1, hF⟩ := bd hF
  obtain ⟨hb1, hF⟩ := gv_in hF
  replace hb1 := ckX0_ok hb1
  refine X_gR G dX8_letter_1 fX8_63 ht.1 rfl hrb1 ?_
  obtain ⟨y2, hc, hF⟩ := bd hF
  refine V_callV G dX8_letter_4 kX8_128 (wd_at hb1.1) ⟨by decide, rfl⟩ (s_X0_isTold hb1 G hc (by omega)) rfl (Nat.le_of_ble_eq_true rfl) (fun _ _ _ q => q.elim) ?_
  rintro _ _ ⟨rfl, rfl⟩
  refine V_if_eq (tgt := 19) dX8_letter_7 (by decide) (fun c => ?_) (fun c => ?_)
  · replace hF := (if_pos c).symm.trans hF
    refine V_aload_n dX8_letter_19 rfl ?_
    refine V_iconst (v := 1) dX8_letter_20 (by decide) ?_
    obtain ⟨y3, hc, hF⟩ := bd hF
    refine V_callV G dX8_letter_21 kX8_223 (wd_at ht.1) ⟨by decide, rfl⟩ (s_X8_allowed ht G hc (by omega)) rfl (Nat.le_of_ble_eq_true rfl) (fun _ _ _ q => q.elim) ?_
    rintro _ _ ⟨rfl, rfl⟩
    obtain ⟨hz, hF⟩ := gv_out hF
    cases hF
    exact V_ireturn dX8_letter_24 rfl (nb_n hz) ⟨rfl, rfl⟩
  · replace hF := (if_neg c).symm.trans hF
    refine V_iload_n dX8_letter_10 rfl ?_
    refine V_if_lt (tgt := 19) dX8_letter_11 (by decide) (fun c => ?_) (fun c => ?_)
    · replace hF := (if_pos c).symm.trans hF
      refine V_aload_n dX8_letter_19 rfl ?_
      refine V_iconst (v := 1) dX8_letter_20 (by decide) ?_
      obtain ⟨y4, hc, hF⟩ := bd hF
      refine V_callV G dX8_letter_21 kX8_223 (wd_at ht.1) ⟨by decide, rfl⟩ (s_X8_allowed ht G hc (by omega)) rfl (Nat.le_of_ble_eq_true rfl) (fun _ _ _ q => q.elim) ?_
      rintro _ _ ⟨rfl, rfl⟩
      obtain ⟨hz, hF⟩ := gv_out hF
      cases hF
      exact V_ireturn dX8_letter_24 rfl (nb_n hz) ⟨rfl, rfl⟩
    · replace hF := (if_neg c).symm.trans hF
      refine V_iload_n dX8_letter_14 rfl ?_
      refine V_iconst (v := 3) dX8_letter_15 (by decide) ?_
      refine V_icmp_lt (tgt := 25) dX8_letter_16 (by decide) (fun c => ?_) (fun c => ?_)
      · replace hF := (if_pos c).symm.trans hF
        refine V_iload_n dX8_letter_25 rfl ?_
        refine V_bipush (v := -99) dX8_letter_26 (by decide) ?_
        refine V_icmp_lt (tgt := 37) dX8_letter_28 (by decide) (fun c => ?_) (fun c => ?_)
        · replace hF := (if_pos c).symm.trans hF
          refine V_aload_n dX8_letter_37 rfl ?_
          refine V_iconst (v := 2) dX8_letter_38 (by decide) ?_
          obtain ⟨y5, hc, hF⟩ := bd hF
          refine V_callV G dX8_letter_39 kX8_223 (wd_at ht.1) ⟨by decide, rfl⟩ (s_X8_allowed ht G hc (by omega)) rfl (Nat.le_of_ble_eq_true rfl) (fun _ _ _ q => q.elim) ?_
          rintro _ _ ⟨rfl, rfl⟩
          obtain ⟨hz, hF⟩ := gv_out hF
          cases hF
          exact V_ireturn dX8_letter_42 rfl (nb_n hz) ⟨rfl, rfl⟩
        · replace hF := (if_neg c).symm.trans hF
          refine V_iload_n dX8_letter_31 rfl ?_
          refine V_bipush (v := 99) dX8_letter_32 (by decide) ?_
          refine V_icmp_le (tgt := 43) dX8_letter_34 (by decide) (fun c => ?_) (fun c => ?_)
          · replace hF := (if_pos c).symm.trans hF
            refine V_aload_n dX8_letter_43 rfl ?_
            refine X_gC G dX8_letter_44 fX8_53 ht.1 rfl ?_
            refine V_iload_n dX8_letter_47 rfl ?_
            refine V_iload_n dX8_letter_48 rfl ?_
            obtain ⟨hz, hF⟩ := gv_out hF
            refine X_iast dX8_letter_49 ht.2.2.2.2.2.2.2.2.2.1 hz ?_
            obtain ⟨S6, qS6, hF⟩ := bnd_g hF
            refine V_eqS qS6 ?_
            refine V_aload_n dX8_letter_50 rfl ?_
            refine V_iconst (v := 0) dX8_letter_51 (by decide) ?_
            obtain ⟨y7, hc, hF⟩ := bd hF
            refine V_callV G dX8_letter_52 kX8_223 (wd_at ht.1) ⟨by decide, rfl⟩ (s_X8_allowed ht G hc (by omega)) rfl (Nat.le_of_ble_eq_true rfl) (fun _ _ _ q => q.elim) ?_
            rintro _ _ ⟨rfl, rfl⟩
            obtain ⟨hz, hF⟩ := gv_out hF
            cases hF
            exact V_ireturn dX8_letter_55 rfl (nb_n hz) ⟨rfl, rfl⟩
          · replace hF := (if_neg c).symm.trans hF
            refine V_aload_n dX8_letter_37 rfl ?_
            refine V_iconst (v := 2) dX8_letter_38 (by decide) ?_
            obtain ⟨y8, hc, hF⟩ := bd hF
            refine V_callV G dX8_letter_39 kX8_223 (wd_at ht.1) ⟨by decide, rfl⟩ (s_X8_allowed ht G hc (by omega)) rfl (Nat.le_of_ble_eq_true rfl) (fun _ _ _ q => q.elim) ?_
            rintro _ _ ⟨rfl, rfl⟩
            obtain ⟨hz, hF⟩ := gv_out hF
            cases hF
            exact V_ireturn dX8_letter_42 rfl (nb_n hz) ⟨rfl, rfl⟩
      · replace hF := (if_neg c).symm.trans hF
        refine V_aload_n dX8_letter_19 rfl ?_
        refine V_iconst (v := 1) dX8_letter_20 (by decide) ?_
        obtain ⟨y9, hc, hF⟩ := bd hF
        refine V_callV G dX8_letter_21 kX8_223 (wd_at ht.1) ⟨by decide, rfl⟩ (s_X8_allowed ht G hc (by omega)) rfl (Nat.le_of_ble_eq_true rfl) (fun _ _ _ q => q.elim) ?_
        rintro _ _ ⟨rfl, rfl⟩
        obtain ⟨hz, hF⟩ := gv_out hF
        cases hF
        exact V_ireturn dX8_letter_24 rfl (nb_n hz) ⟨rfl, rfl⟩
set_option maxRecDepth 100000 in
set_option maxHeartbeats 4000000 in
theorem s_X8_settle {l : Launch} {s0 : State} {D : va_G} {a0 : Array Value} {sh : List Sh} {f : Nat} {S : St} {t : Nat} (ht : isX8 sh t) {r : Int32 × St} (G : GC l s0 D a0) (hF : F_X8_settle sh f S t = some r) {d : Nat} (hd : 4 ≤ d) : Sp l s0 D d 0 0 mX8_settle (fun v h => v = some (.int r.1) ∧ h = wd s0.heap.size sh r.2) v_noX [.ref (s0.heap.size + t)] (wd s0.heap.size sh S) := by
  obtain ⟨d, rfl⟩ : ∃ e, d = e + 1 := ⟨d - 1, by omega⟩
  refine Sp.of (by decide +kernel) rfl (Nat.le_of_ble_eq_true rfl) ?_
  unfold F_X8_settle at hF
  refine V_aload_n dX8_settle_0 rfl ?_
  obtain ⟨b1, hrb1, hF⟩ := bd hF
  obtain ⟨hb1, hF⟩ := gv_in hF
  replace hb1 := ckX7_ok hb1
  refine X_gR G dX8_settle_1 fX8_77 ht.1 rfl hrb1 ?_
  refine X_gI G dX8_settle_4 fX8_321 hb1.1 rfl ?_
  refine V_iconst (v := -1) dX8_settle_7 (by decide) ?_
  refine V_icmp_eq (tgt := 24) dX8_settle_8 (by decide) (fun c => ?_) (fun c => ?_)
  · replace hF := (if_pos c).symm.trans hF
    refine V_aload_n dX8_settle_24 rfl ?_
    obtain ⟨b2, hrb2, hF⟩ := bd hF
    obtain ⟨hb2, hF⟩ := gv_in hF
    replace hb2 := ckX7_ok hb2
    refine X_gR G dX8_settle_25 fX8_77 ht.1 rfl hrb2 ?_
    obtain ⟨y3, hc, hF⟩ := bd hF
    refine V_callV G dX8_settle_28 kX8_324 (wd_at hb2.1) ⟨by decide, rfl⟩ (s_X7_findFraction hb2 G hc (by omega)) rfl (Nat.le_of_ble_eq_true rfl) (fun _ _ _ q => q.elim) ?_
    rintro _ _ ⟨rfl, rfl⟩
    refine V_if_ne (tgt := 37) dX8_settle_31 (by decide) (fun c => ?_) (fun c => ?_)
    · replace hF := (if_neg c).symm.trans hF
      refine V_aload_n dX8_settle_37 rfl ?_
      obtain ⟨b4, hrb4, hF⟩ := bd hF
      obtain ⟨hb4, hF⟩ := gv_in hF
      replace hb4 := ckX7_ok hb4
      refine X_gR G dX8_settle_38 fX8_74 ht.1 rfl hrb4 ?_
      refine V_astore_n dX8_settle_41 (by decide) ?_
      refine V_aload_n dX8_settle_42 rfl ?_
      refine V_aload_n dX8_settle_43 rfl ?_
      obtain ⟨b5, hrb5, hF⟩ := bd hF
      obtain ⟨hb5, hF⟩ := gv_in hF
      replace hb5 := ckX7_ok hb5
      refine X_gR G dX8_settle_44 fX8_77 ht.1 rfl hrb5 ?_
      refine X_pR G dX8_settle_47 gX8_74 ht.1 rfl rfl rfl ?_
      obtain ⟨S6, qS6, hF⟩ := bnd_g hF
      refine V_eqS qS6 ?_
      refine V_aload_n dX8_settle_50 rfl ?_
      refine V_aload_n dX8_settle_51 rfl ?_
      refine X_pR G dX8_settle_52 gX8_77 ht.1 rfl rfl rfl ?_
      obtain ⟨S7, qS7, hF⟩ := bnd_g hF
      refine V_eqS qS7 ?_
      refine V_aload_n dX8_settle_55 rfl ?_
      refine V_iconst (v := 1) dX8_settle_56 (by decide) ?_
      refine X_pI G dX8_settle_57 gX8_238 ht.1 rfl (by decide) (by decide) ?_
      obtain ⟨S8, qS8, hF⟩ := bnd_g hF
      refine V_eqS qS8 ?_
      refine V_iconst (v := 0) dX8_settle_60 (by decide) ?_
      cases hF
      exact V_ireturn dX8_settle_61 rfl rfl ⟨rfl, rfl⟩
    · replace hF := (if_pos c).symm.trans hF
      refine V_bipush (v := 6) dX8_settle_34 (by decide) ?_
      cases hF
      exact V_ireturn dX8_settle_36 rfl rfl ⟨rfl, rfl⟩
  · replace hF := (if_neg c).symm.trans hF
    refine V_aload_n dX8_settle_11 rfl ?_
    refine V_aload_n dX8_settle_12 rfl ?_
    obtain ⟨b9, hrb9, hF⟩ := bd hF
    obtain ⟨hb9, hF⟩ := gv_in hF
    replace hb9 := ckX7_ok hb9
    refine X_gR G dX8_settle_13 fX8_77 ht.1 rfl hrb9 ?_
    refine X_gI G dX8_settle_16 fX8_321 hb9.1 rfl ?_
    refine X_pI G dX8_settle_19 gX8_251 ht.1 rfl rfl rfl ?_
    obtain ⟨S10, qS10, hF⟩ := bnd_g hF
    refine V_eqS qS10 ?_
    refine V_iconst (v := 5) dX8_settle_22 (by decide) ?_
    cases hF
    exact V_ireturn dX8_settle_23 rfl rfl ⟨rfl, rfl⟩
set_option maxRecDepth 100000 in
set_option maxHeartbeats 4000000 in
theorem w_X8_reckonWhole_L81 {l : Launch} {s0 : State} {D : va_G} {a0 : Array Value} {sh : List Sh} {f : Nat} {t : Nat} {p1 : Int32} {p2 : Int32} {p3 : Int32} (ht : isX8 sh t) {r : Int32 × St} {d : Nat} (G : GC l s0 D a0) (hd : 17 ≤ d + 1) : ∀ (S : St) (l4 : Int32), F_X8_reckonWhole_L81 sh f t p1 p2 p3 S l4 = some r → V l s0 D (d + 1) 0 0 mX8_reckonWhole (fun v h => v = some (.int r.1) ∧ h = wd s0.heap.size sh r.2) v_noX 81 [(0, .ref (s0.heap.size + t)), (2, .int p2), (3, .int p3), (4, .int l4)] [] (wd s0.heap.size sh S) := by
  intro S l4 hF
  unfold F_X8_reckonWhole_L81 at hF
  refine V_aload_n dX8_reckonWhole_81 rfl ?_
  obtain ⟨b1, hrb1, hF⟩ := bd hF
  obtain ⟨hb1, hF⟩ := gv_in hF
  replace hb1 := ckX7_ok hb1
  refine X_gR G dX8_reckonWhole_82 fX8_77 ht.1 rfl hrb1 ?_
  obtain ⟨y2, hc, hF⟩ := bd hF
  refine V_callV G dX8_reckonWhole_85 kX8_304 (wd_at hb1.1) ⟨by decide, rfl⟩ (s_X7_clear hb1 G hc (by omega)) rfl (Nat.le_of_ble_eq_true rfl) (fun _ _ _ q => q.elim) ?_
  rintro _ _ ⟨rfl, rfl⟩
  refine V_aload_n dX8_reckonWhole_88 rfl ?_
  obtain ⟨b3, hrb3, hF⟩ := bd hF
  obtain ⟨hb3, hF⟩ := gv_in hF
  replace hb3 := ckX7_ok hb3
  refine X_gR G dX8_reckonWhole_89 fX8_77 ht.1 rfl hrb3 ?_
  refine V_iload dX8_reckonWhole_92 rfl ?_
  refine V_if_eq (tgt := 104) dX8_reckonWhole_94 (by decide) (fun c => ?_) (fun c => ?_)
  · replace hF := (if_pos c).symm.trans hF
    refine V_aload_n dX8_reckonWhole_104 rfl ?_
    refine X_gC G dX8_reckonWhole_105 fX8_19 ht.1 rfl ?_
    obtain ⟨b4, hrb4, hF⟩ := bd hF
    obtain ⟨hb4, hF⟩ := gv_in hF
    replace hb4 := ckX3_ok hb4
    refine X_gR G dX8_reckonWhole_108 fX8_147 ht.2.2.1.1 rfl hrb4 ?_
    refine V_aload_n dX8_reckonWhole_111 rfl ?_
    obtain ⟨b5, hrb5, hF⟩ := bd hF
    obtain ⟨hb5, hF⟩ := gv_in hF
    replace hb5 := ckX0_ok hb5
    refine X_gR G dX8_reckonWhole_112 fX8_63 ht.1 rfl hrb5 ?_
    refine V_aload_n dX8_reckonWhole_115 rfl ?_
    refine X_gC G dX8_reckonWhole_116 fX8_33 ht.1 rfl ?_
    refine V_aload_n dX8_reckonWhole_119 rfl ?_
    refine X_gC G dX8_reckonWhole_120 fX8_53 ht.1 rfl ?_
    refine V_iload_n dX8_reckonWhole_123 rfl ?_
    refine V_iload_n dX8_reckonWhole_124 rfl ?_
    obtain ⟨y6, hc, hF⟩ := bd hF
    refine V_callV G dX8_reckonWhole_125 kX8_305 (wd_at hb3.1) ⟨by decide, rfl⟩ (s_X7_addWorths hb3 hb4 hb5 ht.2.2.2.2.1 ht.2.2.2.2.2.2.2.2.2.1 G hc (by omega)) rfl (Nat.le_of_ble_eq_true rfl) (fun _ _ _ q => q.elim) ?_
    rintro _ _ ⟨rfl, rfl⟩
    refine V_aload_n dX8_reckonWhole_128 rfl ?_
    obtain ⟨y7, hc, hF⟩ := bd hF
    refine V_callV G dX8_reckonWhole_129 kX8_309 (wd_at ht.1) ⟨by decide, rfl⟩ (s_X8_settle ht G hc (by omega)) rfl (Nat.le_of_ble_eq_true rfl) (fun _ _ _ q => q.elim) ?_
    rintro _ _ ⟨rfl, rfl⟩
    cases hF
    exact V_ireturn dX8_reckonWhole_132 rfl rfl ⟨rfl, rfl⟩
  · replace hF := (if_neg c).symm.trans hF
    refine V_aload_n dX8_reckonWhole_97 rfl ?_
    obtain ⟨b8, hrb8, hF⟩ := bd hF
    obtain ⟨hb8, hF⟩ := gv_in hF
    replace hb8 := ckX3_ok hb8
    refine X_gR G dX8_reckonWhole_98 fX8_70 ht.1 rfl hrb8 ?_
    refine V_goto (tgt := 111) dX8_reckonWhole_101 (by decide) ?_
    refine V_aload_n dX8_reckonWhole_111 rfl ?_
    obtain ⟨b9, hrb9, hF⟩ := bd hF
    obtain ⟨hb9, hF⟩ := gv_in hF
    replace hb9 := ckX0_ok hb9
    refine X_gR G dX8_reckonWhole_112 fX8_63 ht.1 rfl hrb9 ?_
    refine V_aload_n dX8_reckonWhole_115 rfl ?_
    refine X_gC G dX8_reckonWhole_116 fX8_33 ht.1 rfl ?_
    refine V_aload_n dX8_reckonWhole_119 rfl ?_
    refine X_gC G dX8_reckonWhole_120 fX8_53 ht.1 rfl ?_
    refine V_iload_n dX8_reckonWhole_123 rfl ?_
    refine V_iload_n dX8_reckonWhole_124 rfl ?_
    obtain ⟨y10, hc, hF⟩ := bd hF
    refine V_callV G dX8_reckonWhole_125 kX8_305 (wd_at hb3.1) ⟨by decide, rfl⟩ (s_X7_addWorths hb3 hb8 hb9 ht.2.2.2.2.1 ht.2.2.2.2.2.2.2.2.2.1 G hc (by omega)) rfl (Nat.le_of_ble_eq_true rfl) (fun _ _ _ q => q.elim) ?_
    rintro _ _ ⟨rfl, rfl⟩
    refine V_aload_n dX8_reckonWhole_128 rfl ?_
    obtain ⟨y11, hc, hF⟩ := bd hF
    refine V_callV G dX8_reckonWhole_129 kX8_309 (wd_at ht.1) ⟨by decide, rfl⟩ (s_X8_settle ht G hc (by omega)) rfl (Nat.le_of_ble_eq_true rfl) (fun _ _ _ q => q.elim) ?_
    rintro _ _ ⟨rfl, rfl⟩
    cases hF
    exact V_ireturn dX8_reckonWhole_132 rfl rfl ⟨rfl, rfl⟩
set_option maxRecDepth 100000 in
set_option maxHeartbeats 4000000 in
theorem w_X8_reckonWhole_L53 {l : Launch} {s0 : State} {D : va_G} {a0 : Array Value} {sh : List Sh} {f : Nat} {t : Nat} {p1 : Int32} {p2 : Int32} {p3 : Int32} (ht : isX8 sh t) {r : Int32 × St} {d : Nat} (G : GC l s0 D a0) (hd : 17 ≤ d + 1) : ∀ (S : St) (v0 : Int32), F_X8_reckonWhole_L53 sh f t p1 p2 p3 S v0 = some r → V l s0 D (d + 1) 0 0 mX8_reckonWhole (fun v h => v = some (.int r.1) ∧ h = wd s0.heap.size sh r.2) v_noX 53 [(0, .ref (s0.heap.size + t)), (1, .int p1), (2, .int p2), (3, .int p3)] [.int v0] (wd s0.heap.size sh S) := by
  intro S v0 hF
  unfold F_X8_reckonWhole_L53 at hF
  refine V_istore dX8_reckonWhole_53 (by decide) ?_
  refine V_iload dX8_reckonWhole_55 rfl ?_
  refine V_if_ne (tgt := 81) dX8_reckonWhole_57 (by decide) (fun c => ?_) (fun c => ?_)
  · replace hF := (if_neg c).symm.trans hF
    exact V_lv' (w_X8_reckonWhole_L81 ht G hd _ _ hF) (v_all_c rfl (v_all_c rfl (v_all_c rfl (v_all_c rfl v_all_n))))
  · replace hF := (if_pos c).symm.trans hF
    refine V_aload_n dX8_reckonWhole_60 rfl ?_
    refine X_gC G dX8_reckonWhole_61 fX8_19 ht.1 rfl ?_
    refine V_aload_n dX8_reckonWhole_64 rfl ?_
    obtain ⟨b1, hrb1, hF⟩ := bd hF
    obtain ⟨hb1, hF⟩ := gv_in hF
    replace hb1 := ckX0_ok hb1
    refine X_gR G dX8_reckonWhole_65 fX8_63 ht.1 rfl hrb1 ?_
    refine V_aload_n dX8_reckonWhole_68 rfl ?_
    refine X_gC G dX8_reckonWhole_69 fX8_33 ht.1 rfl ?_
    refine V_iload_n dX8_reckonWhole_72 rfl ?_
    obtain ⟨y2, hc, hF⟩ := bd hF
    refine V_callV G dX8_reckonWhole_73 kX8_143 (wd_at ht.2.2.1.1) ⟨by decide, rfl⟩ (s_X5_fill ht.2.2.1 hb1 ht.2.2.2.2.1 G hc (by omega)) rfl (Nat.le_of_ble_eq_true rfl) (fun _ _ _ q => q.elim) ?_
    rintro _ _ ⟨rfl, rfl⟩
    refine V_if_ne (tgt := 81) dX8_reckonWhole_76 (by decide) (fun c => ?_) (fun c => ?_)
    · replace hF := (if_neg c).symm.trans hF
      exact V_lv' (w_X8_reckonWhole_L81 ht G hd _ _ hF) (v_all_c rfl (v_all_c rfl (v_all_c rfl (v_all_c rfl v_all_n))))
    · replace hF := (if_pos c).symm.trans hF
      refine V_iconst (v := 3) dX8_reckonWhole_79 (by decide) ?_
      cases hF
      exact V_ireturn dX8_reckonWhole_80 rfl rfl ⟨rfl, rfl⟩
set_option maxRecDepth 100000 in
set_option maxHeartbeats 4000000 in
theorem w_X8_reckonWhole_L52 {l : Launch} {s0 : State} {D : va_G} {a0 : Array Value} {sh : List Sh} {f : Nat} {t : Nat} {p1 : Int32} {p2 : Int32} {p3 : Int32} (ht : isX8 sh t) {r : Int32 × St} {d : Nat} (G : GC l s0 D a0) (hd : 17 ≤ d + 1) : ∀ (S : St), F_X8_reckonWhole_L52 sh f t p1 p2 p3 S = some r → V l s0 D (d + 1) 0 0 mX8_reckonWhole (fun v h => v = some (.int r.1) ∧ h = wd s0.heap.size sh r.2) v_noX 52 [(0, .ref (s0.heap.size + t)), (1, .int p1), (2, .int p2), (3, .int p3)] [] (wd s0.heap.size sh S) := by
  intro S hF
  unfold F_X8_reckonWhole_L52 at hF
  refine V_iconst (v := 0) dX8_reckonWhole_52 (by decide) ?_
  exact V_lv' (w_X8_reckonWhole_L53 ht G hd _ _ hF) (v_all_c rfl (v_all_c rfl (v_all_c rfl (v_all_c rfl v_all_n))))
set_option maxRecDepth 100000 in
set_option maxHeartbeats 4000000 in
theorem s_X8_reckonWhole {l : Launch} {s0 : State} {D : va_G} {a0 : Array Value} {sh : List Sh} {f : Nat} {S : St} {t : Nat} {p1 : Int32} {p2 : Int32} {p3 : Int32} (ht : isX8 sh t) {r : Int32 × St} (G : GC l s0 D a0) (hF : F_X8_reckonWhole sh f S t p1 p2 p3 = some r) {d : Nat} (hd : 17 ≤ d) : Sp l s0 D d 0 0 mX8_reckonWhole (fun v h => v = some (.int r.1) ∧ h = wd s0.heap.size sh r.2) v_noX [.ref (s0.heap.size + t), .int p1, .int p2, .int p3] (wd s0.heap.size sh S) := by
  obtain ⟨d, rfl⟩ : ∃ e, d = e + 1 := ⟨d - 1, by omega⟩
  refine Sp.of (by decide +kernel) rfl (Nat.le_of_ble_eq_true rfl) ?_
  unfold F_X8_reckonWhole at hF
  refine V_aload_n dX8_reckonWhole_0 rfl ?_
  refine X_gC G dX8_reckonWhole_1 fX8_33 ht.1 rfl ?_
  refine V_aload_n dX8_reckonWhole_4 rfl ?_
  obtain ⟨b1, hrb1, hF⟩ := bd hF
  obtain ⟨hb1, hF⟩ := gv_in hF
  replace hb1 := ckX0_ok hb1
  refine X_gR G dX8_reckonWhole_5 fX8_63 ht.1 rfl hrb1 ?_
  obtain ⟨y2, hc, hF⟩ := bd hF
  refine V_callV G dX8_reckonWhole_8 kX8_139 (wd_at ht.2.2.2.2.1.1) ⟨by decide, rfl⟩ (s_X1_isBalanced ht.2.2.2.2.1 hb1 G hc (by omega)) rfl (Nat.le_of_ble_eq_true rfl) (fun _ _ _ q => q.elim) ?_
  rintro _ _ ⟨rfl, rfl⟩
  refine V_if_ne (tgt := 17) dX8_reckonWhole_11 (by decide) (fun c => ?_) (fun c => ?_)
  · replace hF := (if_neg c).symm.trans hF
    refine V_aload_n dX8_reckonWhole_17 rfl ?_
    refine X_gC G dX8_reckonWhole_18 fX8_33 ht.1 rfl ?_
    obtain ⟨y3, hc, hF⟩ := bd hF
    refine V_callV G dX8_reckonWhole_21 kX8_301 (wd_at ht.2.2.2.2.1.1) ⟨by decide, rfl⟩ (s_X1_total ht.2.2.2.2.1 G hc (by omega)) rfl (Nat.le_of_ble_eq_true rfl) (fun _ _ _ q => q.elim) ?_
    rintro _ _ ⟨rfl, rfl⟩
    refine V_if_eq (tgt := 30) dX8_reckonWhole_24 (by decide) (fun c => ?_) (fun c => ?_)
    · replace hF := (if_pos c).symm.trans hF
      refine V_aload_n dX8_reckonWhole_30 rfl ?_
      refine X_gI G dX8_reckonWhole_31 fX8_102 ht.1 rfl ?_
      refine V_if_eq (tgt := 52) dX8_reckonWhole_34 (by decide) (fun c => ?_) (fun c => ?_)
      · replace hF := (if_pos c).symm.trans hF
        exact V_lv' (w_X8_reckonWhole_L52 ht G hd _ hF) (v_all_c rfl (v_all_c rfl (v_all_c rfl (v_all_c rfl v_all_n))))
      · replace hF := (if_neg c).symm.trans hF
        refine V_aload_n dX8_reckonWhole_37 rfl ?_
        obtain ⟨b4, hrb4, hF⟩ := bd hF
        obtain ⟨hb4, hF⟩ := gv_in hF
        replace hb4 := ckX3_ok hb4
        refine X_gR G dX8_reckonWhole_38 fX8_70 ht.1 rfl hrb4 ?_
        refine X_gI G dX8_reckonWhole_41 fX8_187 hb4.1 rfl ?_
        refine V_iload_n dX8_reckonWhole_44 rfl ?_
        refine V_icmp_ne (tgt := 52) dX8_reckonWhole_45 (by decide) (fun c => ?_) (fun c => ?_)
        · replace hF := (if_neg c).symm.trans hF
          exact V_lv' (w_X8_reckonWhole_L52 ht G hd _ hF) (v_all_c rfl (v_all_c rfl (v_all_c rfl (v_all_c rfl v_all_n))))
        · replace hF := (if_pos c).symm.trans hF
          refine V_iconst (v := 1) dX8_reckonWhole_48 (by decide) ?_
          refine V_goto (tgt := 53) dX8_reckonWhole_49 (by decide) ?_
          exact V_lv' (w_X8_reckonWhole_L53 ht G hd _ _ hF) (v_all_c rfl (v_all_c rfl (v_all_c rfl (v_all_c rfl v_all_n))))
    · replace hF := (if_neg c).symm.trans hF
      refine V_bipush (v := 8) dX8_reckonWhole_27 (by decide) ?_
      cases hF
      exact V_ireturn dX8_reckonWhole_29 rfl rfl ⟨rfl, rfl⟩
  · replace hF := (if_pos c).symm.trans hF
    refine V_bipush (v := 7) dX8_reckonWhole_14 (by decide) ?_
    cases hF
    exact V_ireturn dX8_reckonWhole_16 rfl rfl ⟨rfl, rfl⟩

