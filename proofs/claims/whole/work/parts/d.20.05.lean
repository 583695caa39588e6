set_option maxRecDepth 100000 in
set_option maxHeartbeats 4000000 in
theorem s_X12_point {l : Launch} {s0 : State} {D : va_G} {a0 : Array Value} {sh : List Sh} {f : Nat} {S : St} {t : Nat} {p1 : Int32} {p2 : Int32} (ht : isX12 sh t) {r : Int32 × St} (G : GC l s0 D a0) (hF : F_X12_point sh f S t p1 p2 = some r) {d : Nat} (hd : 2 ≤ d) : Sp l s0 D d 0 0 mX12_point (fun v h => v = some (.int r.1) ∧ h = wd s0.heap.size sh r.2) v_noX [.ref (s0.heap.size + t), .int p1, .int p2] (wd s0.heap.size sh S) := by
  obtain ⟨d, rfl⟩ : ∃ e, d = e + 1 := ⟨d - 1, by omega⟩
  refine Sp.of (by decide +kernel) rfl (Nat.le_of_ble_eq_true rfl) ?_
  unfold F_X12_point at hF
  refine V_aload_n dX12_point_0 rfl ?_
  refine V_iconst (v := 0) dX12_point_1 (by decide) ?_
  refine X_pI G dX12_point_2 gX12_147 ht.1 rfl rfl rfl ?_
  obtain ⟨S1, qS1, hF⟩ := bnd_g hF
  refine V_eqS qS1 ?_
  refine V_aload_n dX12_point_5 rfl ?_
  refine V_iload_n dX12_point_6 rfl ?_
  obtain ⟨y2, hc, hF⟩ := bd hF
  refine V_callV G dX12_point_7 kX12_451 (wd_at ht.1) ⟨by decide, rfl⟩ (s_X12_isDrawing ht G hc (by omega)) rfl (Nat.le_of_ble_eq_true rfl) (fun _ _ _ q => q.elim) ?_
  rintro _ _ ⟨rfl, rfl⟩
  refine V_if_eq (tgt := 46) dX12_point_10 (by decide) (fun c => ?_) (fun c => ?_)
  · replace hF := (if_pos c).symm.trans hF
    refine V_iconst (v := -1) dX12_point_46 (by decide) ?_
    cases hF
    exact V_ireturn dX12_point_47 rfl rfl ⟨rfl, rfl⟩
  · replace hF := (if_neg c).symm.trans hF
    refine V_iload_n dX12_point_13 rfl ?_
    refine V_iconst (v := 0) dX12_point_14 (by decide) ?_
    refine V_aload_n dX12_point_15 rfl ?_
    refine X_gC G dX12_point_16 fX12_47 ht.1 rfl ?_
    refine X_gI G dX12_point_19 fX12_339 ht.2.2.2.2.2.2.1.1 rfl ?_
    refine V_iconst (v := 1) dX12_point_22 (by decide) ?_
    refine V_isub dX12_point_23 ?_
    obtain ⟨y3, hc, hF⟩ := bd hF
    refine V_callS dX12_point_24 kX12_242 (s_X12_in G hc (by omega)) rfl (Nat.le_of_ble_eq_true rfl) (fun _ _ _ q => q.elim) ?_
    rintro _ _ ⟨rfl, rfl⟩
    refine V_if_eq (tgt := 46) dX12_point_27 (by decide) (fun c => ?_) (fun c => ?_)
    · replace hF := (if_pos c).symm.trans hF
      refine V_iconst (v := -1) dX12_point_46 (by decide) ?_
      cases hF
      exact V_ireturn dX12_point_47 rfl rfl ⟨rfl, rfl⟩
    · replace hF := (if_neg c).symm.trans hF
      refine V_aload_n dX12_point_30 rfl ?_
      refine X_gC G dX12_point_31 fX12_47 ht.1 rfl ?_
      refine X_gC G dX12_point_34 fX12_407 ht.2.2.2.2.2.2.1.1 rfl ?_
      refine V_iconst (v := 3) dX12_point_37 (by decide) ?_
      refine V_iload_n dX12_point_38 rfl ?_
      refine V_imul dX12_point_39 ?_
      refine V_iload_n dX12_point_40 rfl ?_
      refine V_iadd dX12_point_41 ?_
      obtain ⟨hz, hF⟩ := gv_out hF
      refine X_iald dX12_point_42 ht.2.2.2.2.2.2.1.2.2.2.1 hz ?_
      refine V_goto (tgt := 47) dX12_point_43 (by decide) ?_
      cases hF
      exact V_ireturn dX12_point_47 rfl rfl ⟨rfl, rfl⟩
set_option maxRecDepth 100000 in
set_option maxHeartbeats 4000000 in
theorem s_X12_joined {l : Launch} {s0 : State} {D : va_G} {a0 : Array Value} {sh : List Sh} {f : Nat} {S : St} {t : Nat} {p1 : Int32} {p2 : Int32} (ht : isX12 sh t) {r : Int32 × St} (G : GC l s0 D a0) (hF : F_X12_joined sh f S t p1 p2 = some r) {d : Nat} (hd : 4 ≤ d) : Sp l s0 D d 0 0 mX12_joined (fun v h => v = some (.int r.1) ∧ h = wd s0.heap.size sh r.2) v_noX [.ref (s0.heap.size + t), .int p1, .int p2] (wd s0.heap.size sh S) := by
  obtain ⟨d, rfl⟩ : ∃ e, d = e + 1 := ⟨d - 1, by omega⟩
  refine Sp.of (by decide +kernel) rfl (Nat.le_of_ble_eq_true rfl) ?_
  unfold F_X12_joined at hF
  refine V_aload_n dX12_joined_0 rfl ?_
  refine V_iconst (v := 0) dX12_joined_1 (by decide) ?_
  refine X_pI G dX12_joined_2 gX12_147 ht.1 rfl rfl rfl ?_
  obtain ⟨S1, qS1, hF⟩ := bnd_g hF
  refine V_eqS qS1 ?_
  refine V_aload_n dX12_joined_5 rfl ?_
  refine V_iload_n dX12_joined_6 rfl ?_
  obtain ⟨y2, hc, hF⟩ := bd hF
  refine V_callV G dX12_joined_7 kX12_451 (wd_at ht.1) ⟨by decide, rfl⟩ (s_X12_isDrawing ht G hc (by omega)) rfl (Nat.le_of_ble_eq_true rfl) (fun _ _ _ q => q.elim) ?_
  rintro _ _ ⟨rfl, rfl⟩
  refine V_if_ne (tgt := 15) dX12_joined_10 (by decide) (fun c => ?_) (fun c => ?_)
  · replace hF := (if_neg c).symm.trans hF
    refine V_aload_n dX12_joined_15 rfl ?_
    refine V_aload_n dX12_joined_16 rfl ?_
    refine X_gC G dX12_joined_17 fX12_47 ht.1 rfl ?_
    refine V_iload_n dX12_joined_20 rfl ?_
    obtain ⟨y3, hc, hF⟩ := bd hF
    refine V_callV G dX12_joined_21 kX12_454 (wd_at ht.1) ⟨by decide, rfl⟩ (s_X12_shows ht ht.2.2.2.2.2.2.1 G hc (by omega)) rfl (Nat.le_of_ble_eq_true rfl) (fun _ _ _ q => q.elim) ?_
    rintro _ _ ⟨rfl, rfl⟩
    refine V_iload_n dX12_joined_24 rfl ?_
    refine V_iconst (v := 0) dX12_joined_25 (by decide) ?_
    refine V_aload_n dX12_joined_26 rfl ?_
    refine X_gI G dX12_joined_27 fX12_331 ht.1 rfl ?_
    refine V_iconst (v := 1) dX12_joined_30 (by decide) ?_
    refine V_isub dX12_joined_31 ?_
    obtain ⟨y4, hc, hF⟩ := bd hF
    refine V_callS dX12_joined_32 kX12_242 (s_X12_in G hc (by omega)) rfl (Nat.le_of_ble_eq_true rfl) (fun _ _ _ q => q.elim) ?_
    rintro _ _ ⟨rfl, rfl⟩
    refine V_if_eq (tgt := 47) dX12_joined_35 (by decide) (fun c => ?_) (fun c => ?_)
    · replace hF := (if_pos c).symm.trans hF
      refine V_iconst (v := -1) dX12_joined_47 (by decide) ?_
      cases hF
      exact V_ireturn dX12_joined_48 rfl rfl ⟨rfl, rfl⟩
    · replace hF := (if_neg c).symm.trans hF
      refine V_aload_n dX12_joined_38 rfl ?_
      refine X_gC G dX12_joined_39 fX12_63 ht.1 rfl ?_
      refine V_iload_n dX12_joined_42 rfl ?_
      obtain ⟨hz, hF⟩ := gv_out hF
      refine X_iald dX12_joined_43 ht.2.2.2.2.2.2.2.2.2.2.2.1 hz ?_
      refine V_goto (tgt := 48) dX12_joined_44 (by decide) ?_
      cases hF
      exact V_ireturn dX12_joined_48 rfl rfl ⟨rfl, rfl⟩
  · replace hF := (if_pos c).symm.trans hF
    refine V_iconst (v := -1) dX12_joined_13 (by decide) ?_
    cases hF
    exact V_ireturn dX12_joined_14 rfl rfl ⟨rfl, rfl⟩
set_option maxRecDepth 100000 in
set_option maxHeartbeats 4000000 in
theorem w_X12_side_L40 {l : Launch} {s0 : State} {D : va_G} {a0 : Array Value} {sh : List Sh} {f : Nat} {t : Nat} {p1 : Int32} {p2 : Int32} (ht : isX12 sh t) {r : Int32 × St} {d : Nat} (G : GC l s0 D a0) (hd : 4 ≤ d + 1) : ∀ (n : Nat) (S : St) (l3 : Int32) (l4 : Int32), F_X12_side_L40 sh f t p1 p2 n S l3 l4 = some r → V l s0 D (d + 1) 0 0 mX12_side (fun v h => v = some (.int r.1) ∧ h = wd s0.heap.size sh r.2) v_noX 40 [(0, .ref (s0.heap.size + t)), (2, .int p2), (3, .int l3), (4, .int l4)] [] (wd s0.heap.size sh S) := by
  intro n
  induction n with
  | zero => intro S l3 l4 hF; cases hF
  | succ n ih =>
    intro S l3 l4 hF
    unfold F_X12_side_L40 at hF
    refine V_iload dX12_side_40 rfl ?_
    refine V_aload_n dX12_side_42 rfl ?_
    refine X_gI G dX12_side_43 fX12_331 ht.1 rfl ?_
    refine V_icmp_ge (tgt := 91) dX12_side_46 (by decide) (fun c => ?_) (fun c => ?_)
    · replace hF := (if_pos c).symm.trans hF
      refine V_iconst (v := 0) dX12_side_91 (by decide) ?_
      cases hF
      exact V_ireturn dX12_side_92 rfl rfl ⟨rfl, rfl⟩
    · replace hF := (if_neg c).symm.trans hF
      refine V_iload_n dX12_side_49 rfl ?_
      refine V_if_lt (tgt := 91) dX12_side_50 (by decide) (fun c => ?_) (fun c => ?_)
      · replace hF := (if_pos c).symm.trans hF
        refine V_iconst (v := 0) dX12_side_91 (by decide) ?_
        cases hF
        exact V_ireturn dX12_side_92 rfl rfl ⟨rfl, rfl⟩
      · replace hF := (if_neg c).symm.trans hF
        refine V_aload_n dX12_side_53 rfl ?_
        refine V_iload dX12_side_54 rfl ?_
        obtain ⟨y1, hc, hF⟩ := bd hF
        refine V_callV G dX12_side_56 kX12_445 (wd_at ht.1) ⟨by decide, rfl⟩ (s_X12_sideOf ht G hc (by omega)) rfl (Nat.le_of_ble_eq_true rfl) (fun _ _ _ q => q.elim) ?_
        rintro _ _ ⟨rfl, rfl⟩
        obtain ⟨x2, qx2, hF⟩ := bnd_g hF
        refine B_istore qx2 dX12_side_59 (by decide) ?_
        refine V_iload dX12_side_61 rfl ?_
        refine V_iconst (v := -1) dX12_side_63 (by decide) ?_
        refine V_icmp_ne (tgt := 70) dX12_side_64 (by decide) (fun c => ?_) (fun c => ?_)
        · replace hF := (if_neg c).symm.trans hF
          refine V_iload_n dX12_side_70 rfl ?_
          refine V_if_ne (tgt := 82) dX12_side_71 (by decide) (fun c => ?_) (fun c => ?_)
          · replace hF := (if_neg c).symm.trans hF
            obtain ⟨x3, qx3, hF⟩ := bnd_g hF
            refine B_iinc (v := -1) qx3 dX12_side_82 rfl (by decide) (by decide) ?_
            obtain ⟨x4, qx4, hF⟩ := bnd_g hF
            refine B_iinc (v := 1) qx4 dX12_side_85 rfl (by decide) (by decide) ?_
            refine V_goto (tgt := 40) dX12_side_88 (by decide) ?_
            exact V_lv' (ih _ _ _ hF) (v_all_c rfl (v_all_c rfl (v_all_c rfl (v_all_c rfl v_all_n))))
          · replace hF := (if_pos c).symm.trans hF
            refine V_aload_n dX12_side_74 rfl ?_
            refine V_iconst (v := 0) dX12_side_75 (by decide) ?_
            refine X_pI G dX12_side_76 gX12_147 ht.1 rfl rfl rfl ?_
            obtain ⟨S5, qS5, hF⟩ := bnd_g hF
            refine V_eqS qS5 ?_
            refine V_iload dX12_side_79 rfl ?_
            cases hF
            exact V_ireturn dX12_side_81 rfl rfl ⟨rfl, rfl⟩
        · replace hF := (if_pos c).symm.trans hF
          refine V_goto (tgt := 85) dX12_side_67 (by decide) ?_
          obtain ⟨x6, qx6, hF⟩ := bnd_g hF
          refine B_iinc (v := 1) qx6 dX12_side_85 rfl (by decide) (by decide) ?_
          refine V_goto (tgt := 40) dX12_side_88 (by decide) ?_
          exact V_lv' (ih _ _ _ hF) (v_all_c rfl (v_all_c rfl (v_all_c rfl (v_all_c rfl v_all_n))))
set_option maxRecDepth 100000 in
set_option maxHeartbeats 4000000 in
theorem s_X12_side {l : Launch} {s0 : State} {D : va_G} {a0 : Array Value} {sh : List Sh} {f : Nat} {S : St} {t : Nat} {p1 : Int32} {p2 : Int32} (ht : isX12 sh t) {r : Int32 × St} (G : GC l s0 D a0) (hF : F_X12_side sh f S t p1 p2 = some r) {d : Nat} (hd : 4 ≤ d) : Sp l s0 D d 0 0 mX12_side (fun v h => v = some (.int r.1) ∧ h = wd s0.heap.size sh r.2) v_noX [.ref (s0.heap.size + t), .int p1, .int p2] (wd s0.heap.size sh S) := by
  obtain ⟨d, rfl⟩ : ∃ e, d = e + 1 := ⟨d - 1, by omega⟩
  refine Sp.of (by decide +kernel) rfl (Nat.le_of_ble_eq_true rfl) ?_
  unfold F_X12_side at hF
  refine V_aload_n dX12_side_0 rfl ?_
  refine V_iconst (v := 1) dX12_side_1 (by decide) ?_
  refine X_pI G dX12_side_2 gX12_147 ht.1 rfl rfl rfl ?_
  obtain ⟨S1, qS1, hF⟩ := bnd_g hF
  refine V_eqS qS1 ?_
  refine V_aload_n dX12_side_5 rfl ?_
  refine V_iload_n dX12_side_6 rfl ?_
  obtain ⟨y2, hc, hF⟩ := bd hF
  refine V_callV G dX12_side_7 kX12_451 (wd_at ht.1) ⟨by decide, rfl⟩ (s_X12_isDrawing ht G hc (by omega)) rfl (Nat.le_of_ble_eq_true rfl) (fun _ _ _ q => q.elim) ?_
  rintro _ _ ⟨rfl, rfl⟩
  refine V_if_ne (tgt := 15) dX12_side_10 (by decide) (fun c => ?_) (fun c => ?_)
  · replace hF := (if_neg c).symm.trans hF
    refine V_aload_n dX12_side_15 rfl ?_
    refine V_aload_n dX12_side_16 rfl ?_
    refine X_gC G dX12_side_17 fX12_47 ht.1 rfl ?_
    refine X_gI G dX12_side_20 fX12_339 ht.2.2.2.2.2.2.1.1 rfl ?_
    refine X_pI G dX12_side_23 gX12_439 ht.1 rfl rfl rfl ?_
    obtain ⟨S3, qS3, hF⟩ := bnd_g hF
    refine V_eqS qS3 ?_
    refine V_aload_n dX12_side_26 rfl ?_
    refine V_aload_n dX12_side_27 rfl ?_
    refine X_gC G dX12_side_28 fX12_47 ht.1 rfl ?_
    refine V_iload_n dX12_side_31 rfl ?_
    obtain ⟨y4, hc, hF⟩ := bd hF
    refine V_callV G dX12_side_32 kX12_454 (wd_at ht.1) ⟨by decide, rfl⟩ (s_X12_shows ht ht.2.2.2.2.2.2.1 G hc (by omega)) rfl (Nat.le_of_ble_eq_true rfl) (fun _ _ _ q => q.elim) ?_
    rintro _ _ ⟨rfl, rfl⟩
    refine V_iload_n dX12_side_35 rfl ?_
    refine V_istore_n dX12_side_36 (by decide) ?_
    refine V_iconst (v := 0) dX12_side_37 (by decide) ?_
    refine V_istore dX12_side_38 (by decide) ?_
    exact V_lv' (w_X12_side_L40 ht G hd f _ _ _ hF) (v_all_c rfl (v_all_c rfl (v_all_c rfl (v_all_c rfl v_all_n))))
  · replace hF := (if_pos c).symm.trans hF
    refine V_iconst (v := 0) dX12_side_13 (by decide) ?_
    cases hF
    exact V_ireturn dX12_side_14 rfl rfl ⟨rfl, rfl⟩
set_option maxRecDepth 100000 in
set_option maxHeartbeats 4000000 in
theorem s_X12_pairings {l : Launch} {s0 : State} {D : va_G} {a0 : Array Value} {sh : List Sh} {f : Nat} {S : St} {t : Nat} (ht : isX12 sh t) {r : Int32 × St} (G : GC l s0 D a0) (hF : F_X12_pairings sh f S t = some r) {d : Nat} (hd : 1 ≤ d) : Sp l s0 D d 0 0 mX12_pairings (fun v h => v = some (.int r.1) ∧ h = wd s0.heap.size sh r.2) v_noX [.ref (s0.heap.size + t)] (wd s0.heap.size sh S) := by
  obtain ⟨d, rfl⟩ : ∃ e, d = e + 1 := ⟨d - 1, by omega⟩
  refine Sp.of (by decide +kernel) rfl (Nat.le_of_ble_eq_true rfl) ?_
  unfold F_X12_pairings at hF
  refine V_aload_n dX12_pairings_0 rfl ?_
  refine V_iconst (v := 0) dX12_pairings_1 (by decide) ?_
  refine X_pI G dX12_pairings_2 gX12_147 ht.1 rfl rfl rfl ?_
  obtain ⟨S1, qS1, hF⟩ := bnd_g hF
  refine V_eqS qS1 ?_
  refine V_aload_n dX12_pairings_5 rfl ?_
  refine X_gI G dX12_pairings_6 fX12_318 ht.1 rfl ?_
  refine V_if_eq (tgt := 22) dX12_pairings_9 (by decide) (fun c => ?_) (fun c => ?_)
  · replace hF := (if_pos c).symm.trans hF
    refine V_iconst (v := -1) dX12_pairings_22 (by decide) ?_
    cases hF
    exact V_ireturn dX12_pairings_23 rfl rfl ⟨rfl, rfl⟩
  · replace hF := (if_neg c).symm.trans hF
    refine V_aload_n dX12_pairings_12 rfl ?_
    refine X_gC G dX12_pairings_13 fX12_47 ht.1 rfl ?_
    refine X_gI G dX12_pairings_16 fX12_423 ht.2.2.2.2.2.2.1.1 rfl ?_
    refine V_goto (tgt := 23) dX12_pairings_19 (by decide) ?_
    cases hF
    exact V_ireturn dX12_pairings_23 rfl rfl ⟨rfl, rfl⟩
set_option maxRecDepth 100000 in
set_option maxHeartbeats 4000000 in
theorem w_X12_same_L294 {l : Launch} {s0 : State} {D : va_G} {a0 : Array Value} {sh : List Sh} {f : Nat} {t : Nat} {p1 : Int32} {p2 : Int32} {p3 : Int32} {p4 : Int32} {p5 : Int32} {p6 : Int32} {p7 : Int32} (ht : isX12 sh t) {r : Int32 × St} {d : Nat} (G : GC l s0 D a0) (hd : 15 ≤ d + 1) {k276 : St → Int32 → Int32 → Option (Int32 × St)} (hk276 : ∀ (S : St) (l11 : Int32) (l12 : Int32), k276 S l11 l12 = some r → V l s0 D (d + 1) 0 0 mX12_same (fun v h => v = some (.int r.1) ∧ h = wd s0.heap.size sh r.2) v_noX 276 [(0, .ref (s0.heap.size + t)), (11, .int l11), (12, .int l12)] [] (wd s0.heap.size sh S)) : ∀ (n : Nat) (S : St) (l11 : Int32) (l12 : Int32) (l13 : Int32) (l14 : Int32), F_X12_same_L294 sh f t p1 p2 p3 p4 p5 p6 p7 k276 n S l11 l12 l13 l14 = some r → V l s0 D (d + 1) 0 0 mX12_same (fun v h => v = some (.int r.1) ∧ h = wd s0.heap.size sh r.2) v_noX 294 [(0, .ref (s0.heap.size + t)), (11, .int l11), (12, .int l12), (13, .int l13), (14, .int l14)] [] (wd s0.heap.size sh S) := by
  intro n
  induction n with
  | zero => intro S l11 l12 l13 l14 hF; cases hF
  | succ n ih =>
    intro S l11 l12 l13 l14 hF
    unfold F_X12_same_L294 at hF
    refine V_iload dX12_same_294 rfl ?_
    refine V_aload_n dX12_same_296 rfl ?_
    refine X_gC G dX12_same_297 fX12_47 ht.1 rfl ?_
    refine X_gI G dX12_same_300 fX12_339 ht.2.2.2.2.2.2.1.1 rfl ?_
    refine V_icmp_ge (tgt := 349) dX12_same_303 (by decide) (fun c => ?_) (fun c => ?_)
    · replace hF := (if_pos c).symm.trans hF
      refine V_iload dX12_same_349 rfl ?_
      refine V_if_ne (tgt := 357) dX12_same_351 (by decide) (fun c => ?_) (fun c => ?_)
      · replace hF := (if_neg c).symm.trans hF
        refine V_aload_n dX12_same_357 rfl ?_
        refine V_aload_n dX12_same_358 rfl ?_
        refine X_gC G dX12_same_359 fX12_47 ht.1 rfl ?_
        refine V_aload_n dX12_same_362 rfl ?_
        refine X_gC G dX12_same_363 fX12_88 ht.1 rfl ?_
        refine V_iconst (v := 0) dX12_same_366 (by decide) ?_
        refine V_aload_n dX12_same_367 rfl ?_
        refine V_aload_n dX12_same_368 rfl ?_
        refine X_gC G dX12_same_369 fX12_47 ht.1 rfl ?_
        refine X_gC G dX12_same_372 fX12_410 ht.2.2.2.2.2.2.1.1 rfl ?_
        refine V_iload dX12_same_375 rfl ?_
        obtain ⟨hz, hF⟩ := gv_out hF
        refine X_lald dX12_same_377 ht.2.2.2.2.2.2.1.2.2.2.2.2.2 hz ?_
        obtain ⟨y1, hc, hF⟩ := bd hF
        refine V_callV G dX12_same_378 kX12_370 (wd_at ht.1) ⟨by decide, rfl⟩ (s_X12_rowAt ht G hc (by omega)) rfl (Nat.le_of_ble_eq_true rfl) (fun _ _ _ q => q.elim) ?_
        rintro _ _ ⟨rfl, rfl⟩
        refine V_iload dX12_same_381 rfl ?_
        obtain ⟨y2, hc, hF⟩ := bd hF
        refine V_callV G dX12_same_383 kX12_419 (wd_at ht.1) ⟨by decide, rfl⟩ (s_X12_spreads ht ht.2.2.2.2.2.2.1 ht.2.2.2.2.2.2.2.2.2.2.2.2.2.2.2.2.2.2.2.1 G hc (by omega)) rfl (Nat.le_of_ble_eq_true rfl) (fun _ _ _ q => q.elim) ?_
        rintro _ _ ⟨rfl, rfl⟩
        obtain ⟨x3, qx3, hF⟩ := bnd_g hF
        refine B_istore qx3 dX12_same_386 (by decide) ?_
        refine V_aload_n dX12_same_388 rfl ?_
        refine X_gC G dX12_same_389 fX12_76 ht.1 rfl ?_
        refine V_iload dX12_same_392 rfl ?_
        obtain ⟨hz, hF⟩ := gv_out hF
        refine X_iald dX12_same_394 ht.2.2.2.2.2.2.2.2.2.2.2.2.2.2.2.1 hz ?_
        refine V_iload dX12_same_395 rfl ?_
        refine V_icmp_ne (tgt := 403) dX12_same_397 (by decide) (fun c => ?_) (fun c => ?_)
        · replace hF := (if_neg c).symm.trans hF
          obtain ⟨x4, qx4, hF⟩ := bnd_g hF
          refine B_iinc (v := 1) qx4 dX12_same_403 rfl (by decide) (by decide) ?_
          refine V_goto (tgt := 276) dX12_same_406 (by decide) ?_
          exact V_lv' (hk276 _ _ _ hF) (v_all_c rfl (v_all_c rfl (v_all_c rfl v_all_n)))
        · replace hF := (if_pos c).symm.trans hF
          refine V_iload dX12_same_400 rfl ?_
          cases hF
          exact V_ireturn dX12_same_402 rfl rfl ⟨rfl, rfl⟩
      · replace hF := (if_pos c).symm.trans hF
        refine V_goto (tgt := 403) dX12_same_354 (by decide) ?_
        obtain ⟨x5, qx5, hF⟩ := bnd_g hF
        refine B_iinc (v := 1) qx5 dX12_same_403 rfl (by decide) (by decide) ?_
        refine V_goto (tgt := 276) dX12_same_406 (by decide) ?_
        exact V_lv' (hk276 _ _ _ hF) (v_all_c rfl (v_all_c rfl (v_all_c rfl v_all_n)))
    · replace hF := (if_neg c).symm.trans hF
      refine V_iload dX12_same_306 rfl ?_
      refine V_if_eq (tgt := 340) dX12_same_308 (by decide) (fun c => ?_) (fun c => ?_)
      · replace hF := (if_pos c).symm.trans hF
        refine V_iconst (v := 0) dX12_same_340 (by decide) ?_
        refine V_istore dX12_same_341 (by decide) ?_
        obtain ⟨x6, qx6, hF⟩ := bnd_g hF
        refine B_iinc (v := 1) qx6 dX12_same_343 rfl (by decide) (by decide) ?_
        refine V_goto (tgt := 294) dX12_same_346 (by decide) ?_
        exact V_lv' (ih _ _ _ _ _ hF) (v_all_c rfl (v_all_c rfl (v_all_c rfl (v_all_c rfl (v_all_c rfl v_all_n)))))
      · replace hF := (if_neg c).symm.trans hF
        refine V_aload_n dX12_same_311 rfl ?_
        refine X_gC G dX12_same_312 fX12_47 ht.1 rfl ?_
        refine X_gC G dX12_same_315 fX12_407 ht.2.2.2.2.2.2.1.1 rfl ?_
        refine V_iconst (v := 3) dX12_same_318 (by decide) ?_
        refine V_iload dX12_same_319 rfl ?_
        refine V_imul dX12_same_321 ?_
        refine V_iload dX12_same_322 rfl ?_
        refine V_iadd dX12_same_324 ?_
        obtain ⟨hz, hF⟩ := gv_out hF
        refine X_iald dX12_same_325 ht.2.2.2.2.2.2.1.2.2.2.1 hz ?_
        refine V_aload_n dX12_same_326 rfl ?_
        refine X_gC G dX12_same_327 fX12_88 ht.1 rfl ?_
        refine V_iload dX12_same_330 rfl ?_
        obtain ⟨hz, hF⟩ := gv_out hF
        refine X_iald dX12_same_332 ht.2.2.2.2.2.2.2.2.2.2.2.2.2.2.2.2.2.2.2.1 hz ?_
        refine V_icmp_ne (tgt := 340) dX12_same_333 (by decide) (fun c => ?_) (fun c => ?_)
        · replace hF := (if_neg c).symm.trans hF
          refine V_iconst (v := 0) dX12_same_340 (by decide) ?_
          refine V_istore dX12_same_341 (by decide) ?_
          obtain ⟨x7, qx7, hF⟩ := bnd_g hF
          refine B_iinc (v := 1) qx7 dX12_same_343 rfl (by decide) (by decide) ?_
          refine V_goto (tgt := 294) dX12_same_346 (by decide) ?_
          exact V_lv' (ih _ _ _ _ _ hF) (v_all_c rfl (v_all_c rfl (v_all_c rfl (v_all_c rfl (v_all_c rfl v_all_n)))))
        · replace hF := (if_pos c).symm.trans hF
          refine V_iconst (v := 1) dX12_same_336 (by decide) ?_
          refine V_goto (tgt := 341) dX12_same_337 (by decide) ?_
          refine V_istore dX12_same_341 (by decide) ?_
          obtain ⟨x8, qx8, hF⟩ := bnd_g hF
          refine B_iinc (v := 1) qx8 dX12_same_343 rfl (by decide) (by decide) ?_
          refine V_goto (tgt := 294) dX12_same_346 (by decide) ?_
          exact V_lv' (ih _ _ _ _ _ hF) (v_all_c rfl (v_all_c rfl (v_all_c rfl (v_all_c rfl (v_all_c rfl v_all_n)))))
set_option maxRecDepth 100000 in
set_option maxHeartbeats 4000000 in
theorem w_X12_same_L276 {l : Launch} {s0 : State} {D : va_G} {a0 : Array Value} {sh : List Sh} {f : Nat} {t : Nat} {p1 : Int32} {p2 : Int32} {p3 : Int32} {p4 : Int32} {p5 : Int32} {p6 : Int32} {p7 : Int32} (ht : isX12 sh t) {r : Int32 × St} {d : Nat} (G : GC l s0 D a0) (hd : 15 ≤ d + 1) : ∀ (n : Nat) (S : St) (l11 : Int32) (l12 : Int32), F_X12_same_L276 sh f t p1 p2 p3 p4 p5 p6 p7 n S l11 l12 = some r → V l s0 D (d + 1) 0 0 mX12_same (fun v h => v = some (.int r.1) ∧ h = wd s0.heap.size sh r.2) v_noX 276 [(0, .ref (s0.heap.size + t)), (11, .int l11), (12, .int l12)] [] (wd s0.heap.size sh S) := by
  intro n
  induction n with
  | zero => intro S l11 l12 hF; cases hF
  | succ n ih =>
    intro S l11 l12 hF
    unfold F_X12_same_L276 at hF
    refine V_iload dX12_same_276 rfl ?_
    refine V_aload_n dX12_same_278 rfl ?_
    refine X_gC G dX12_same_279 fX12_47 ht.1 rfl ?_
    refine X_gI G dX12_same_282 fX12_404 ht.2.2.2.2.2.2.1.1 rfl ?_
    refine V_icmp_ge (tgt := 409) dX12_same_285 (by decide) (fun c => ?_) (fun c => ?_)
    · replace hF := (if_pos c).symm.trans hF
      refine V_bipush (v := -2) dX12_same_409 (by decide) ?_
      cases hF
      exact V_ireturn dX12_same_411 rfl rfl ⟨rfl, rfl⟩
    · replace hF := (if_neg c).symm.trans hF
      refine V_iconst (v := 1) dX12_same_288 (by decide) ?_
      refine V_istore dX12_same_289 (by decide) ?_
      refine V_iconst (v := 0) dX12_same_291 (by decide) ?_
      refine V_istore dX12_same_292 (by decide) ?_
      exact V_lv' (w_X12_same_L294 ht G hd ih f _ _ _ _ _ hF) (v_all_c rfl (v_all_c rfl (v_all_c rfl (v_all_c rfl (v_all_c rfl v_all_n)))))
set_option maxRecDepth 100000 in
set_option maxHeartbeats 4000000 in
theorem w_X12_same_L185 {l : Launch} {s0 : State} {D : va_G} {a0 : Array Value} {sh : List Sh} {f : Nat} {t : Nat} {p1 : Int32} {p2 : Int32} {p3 : Int32} {p4 : Int32} {p5 : Int32} {p6 : Int32} {p7 : Int32} (ht : isX12 sh t) {r : Int32 × St} {d : Nat} (G : GC l s0 D a0) (hd : 15 ≤ d + 1) : ∀ (n : Nat) (S : St) (l9 : Int32), F_X12_same_L185 sh f t p1 p2 p3 p4 p5 p6 p7 n S l9 = some r → V l s0 D (d + 1) 0 0 mX12_same (fun v h => v = some (.int r.1) ∧ h = wd s0.heap.size sh r.2) v_noX 185 [(0, .ref (s0.heap.size + t)), (9, .int l9)] [] (wd s0.heap.size sh S) := by
  intro n
  induction n with
  | zero => intro S l9 hF; cases hF
  | succ n ih =>
    intro S l9 hF
    unfold F_X12_same_L185 at hF
    refine V_iload dX12_same_185 rfl ?_
    refine V_aload_n dX12_same_187 rfl ?_
    refine X_gI G dX12_same_188 fX12_331 ht.1 rfl ?_
    refine V_icmp_ge (tgt := 246) dX12_same_191 (by decide) (fun c => ?_) (fun c => ?_)
    · replace hF := (if_pos c).symm.trans hF
      refine V_aload_n dX12_same_246 rfl ?_
      obtain ⟨y1, hc, hF⟩ := bd hF
      refine V_callV G dX12_same_247 kX12_362 (wd_at ht.1) ⟨by decide, rfl⟩ (s_X12_rowHere ht G hc (by omega)) rfl (Nat.le_of_ble_eq_true rfl) (fun _ _ _ q => q.elim) ?_
      rintro _ _ ⟨rfl, rfl⟩
      refine V_lstore dX12_same_250 (by decide) ?_
      refine V_aload_n dX12_same_252 rfl ?_
      obtain ⟨y2, hc, hF⟩ := bd hF
      refine V_callV G dX12_same_253 kX12_397 (wd_at ht.1) ⟨by decide, rfl⟩ (s_X12_pairs ht G hc (by omega)) rfl (Nat.le_of_ble_eq_true rfl) (fun _ _ _ q => q.elim) ?_
      rintro _ _ ⟨rfl, rfl⟩
      refine V_aload_n dX12_same_256 rfl ?_
      refine V_lload dX12_same_257 rfl ?_
      obtain ⟨y3, hc, hF⟩ := bd hF
      refine V_callV G dX12_same_259 kX12_370 (wd_at ht.1) ⟨by decide, rfl⟩ (s_X12_rowAt ht G hc (by omega)) rfl (Nat.le_of_ble_eq_true rfl) (fun _ _ _ q => q.elim) ?_
      rintro _ _ ⟨rfl, rfl⟩
      refine V_istore dX12_same_262 (by decide) ?_
      refine V_iload dX12_same_264 rfl ?_
      refine V_iconst (v := -1) dX12_same_266 (by decide) ?_
      refine V_icmp_ne (tgt := 273) dX12_same_267 (by decide) (fun c => ?_) (fun c => ?_)
      · replace hF := (if_neg c).symm.trans hF
        refine V_iconst (v := 0) dX12_same_273 (by decide) ?_
        refine V_istore dX12_same_274 (by decide) ?_
        exact V_lv' (w_X12_same_L276 ht G hd f _ _ _ hF) (v_all_c rfl (v_all_c rfl (v_all_c rfl v_all_n)))
      · replace hF := (if_pos c).symm.trans hF
        refine V_bipush (v := -2) dX12_same_270 (by decide) ?_
        cases hF
        exact V_ireturn dX12_same_272 rfl rfl ⟨rfl, rfl⟩
    · replace hF := (if_neg c).symm.trans hF
      refine V_aload_n dX12_same_194 rfl ?_
      refine X_gC G dX12_same_195 fX12_63 ht.1 rfl ?_
      refine V_iload dX12_same_198 rfl ?_
      obtain ⟨hz, hF⟩ := gv_out hF
      refine X_iald dX12_same_200 ht.2.2.2.2.2.2.2.2.2.2.2.1 hz ?_
      refine V_aload_n dX12_same_201 rfl ?_
      refine X_gI G dX12_same_202 fX12_331 ht.1 rfl ?_
      refine V_icmp_ge (tgt := 237) dX12_same_205 (by decide) (fun c => ?_) (fun c => ?_)
      · replace hF := (if_pos c).symm.trans hF
        refine V_bipush (v := -2) dX12_same_237 (by decide) ?_
        cases hF
        exact V_ireturn dX12_same_239 rfl rfl ⟨rfl, rfl⟩
      · replace hF := (if_neg c).symm.trans hF
        refine V_aload_n dX12_same_208 rfl ?_
        refine X_gC G dX12_same_209 fX12_63 ht.1 rfl ?_
        refine V_iload dX12_same_212 rfl ?_
        obtain ⟨hz, hF⟩ := gv_out hF
        refine X_iald dX12_same_214 ht.2.2.2.2.2.2.2.2.2.2.2.1 hz ?_
        refine V_iload dX12_same_215 rfl ?_
        refine V_icmp_eq (tgt := 237) dX12_same_217 (by decide) (fun c => ?_) (fun c => ?_)
        · replace hF := (if_pos c).symm.trans hF
          refine V_bipush (v := -2) dX12_same_237 (by decide) ?_
          cases hF
          exact V_ireturn dX12_same_239 rfl rfl ⟨rfl, rfl⟩
        · replace hF := (if_neg c).symm.trans hF
          refine V_aload_n dX12_same_220 rfl ?_
          refine X_gC G dX12_same_221 fX12_63 ht.1 rfl ?_
          refine V_aload_n dX12_same_224 rfl ?_
          refine X_gC G dX12_same_225 fX12_63 ht.1 rfl ?_
          refine V_iload dX12_same_228 rfl ?_
          obtain ⟨hz, hF⟩ := gv_out hF
          refine X_iald dX12_same_230 ht.2.2.2.2.2.2.2.2.2.2.2.1 hz ?_
          obtain ⟨hz, hF⟩ := gv_out hF
          refine X_iald dX12_same_231 ht.2.2.2.2.2.2.2.2.2.2.2.1 hz ?_
          refine V_iload dX12_same_232 rfl ?_
          refine V_icmp_eq (tgt := 240) dX12_same_234 (by decide) (fun c => ?_) (fun c => ?_)
          · replace hF := (if_pos c).symm.trans hF
            obtain ⟨x4, qx4, hF⟩ := bnd_g hF
            refine B_iinc (v := 1) qx4 dX12_same_240 rfl (by decide) (by decide) ?_
            refine V_goto (tgt := 185) dX12_same_243 (by decide) ?_
            exact V_lv' (ih _ _ hF) (v_all_c rfl (v_all_c rfl v_all_n))
          · replace hF := (if_neg c).symm.trans hF
            refine V_bipush (v := -2) dX12_same_237 (by decide) ?_
            cases hF
            exact V_ireturn dX12_same_239 rfl rfl ⟨rfl, rfl⟩
set_option maxRecDepth 100000 in
set_option maxHeartbeats 4000000 in
theorem w_X12_same_L121 {l : Launch} {s0 : State} {D : va_G} {a0 : Array Value} {sh : List Sh} {f : Nat} {t : Nat} {p1 : Int32} {p2 : Int32} {p3 : Int32} {p4 : Int32} {p5 : Int32} {p6 : Int32} {p7 : Int32} (ht : isX12 sh t) {r : Int32 × St} {d : Nat} (G : GC l s0 D a0) (hd : 15 ≤ d + 1) : ∀ (n : Nat) (S : St) (l9 : Int32), F_X12_same_L121 sh f t p1 p2 p3 p4 p5 p6 p7 n S l9 = some r → V l s0 D (d + 1) 0 0 mX12_same (fun v h => v = some (.int r.1) ∧ h = wd s0.heap.size sh r.2) v_noX 121 [(0, .ref (s0.heap.size + t)), (9, .int l9)] [] (wd s0.heap.size sh S) := by
  intro n
  induction n with
  | zero => intro S l9 hF; cases hF
  | succ n ih =>
    intro S l9 hF
    unfold F_X12_same_L121 at hF
    refine V_iload dX12_same_121 rfl ?_
    refine V_aload_n dX12_same_123 rfl ?_
    refine X_gI G dX12_same_124 fX12_331 ht.1 rfl ?_
    refine V_icmp_ge (tgt := 182) dX12_same_127 (by decide) (fun c => ?_) (fun c => ?_)
    · replace hF := (if_pos c).symm.trans hF
      refine V_iconst (v := 0) dX12_same_182 (by decide) ?_
      refine V_istore dX12_same_183 (by decide) ?_
      exact V_lv' (w_X12_same_L185 ht G hd f _ _ hF) (v_all_c rfl (v_all_c rfl v_all_n))
    · replace hF := (if_neg c).symm.trans hF
      refine V_aload_n dX12_same_130 rfl ?_
      refine X_gC G dX12_same_131 fX12_91 ht.1 rfl ?_
      refine V_iload dX12_same_134 rfl ?_
      refine V_iconst (v := 2) dX12_same_136 (by decide) ?_
      refine V_idiv dX12_same_137 (by decide) ?_
      obtain ⟨hz, hF⟩ := gv_out hF
      refine X_iald dX12_same_138 ht.2.2.2.2.2.2.2.2.2.2.2.2.2.2.2.2.2.2.2.2.1 hz ?_
      obtain ⟨x1, qx1, hF⟩ := bnd_g hF
      refine B_istore qx1 dX12_same_139 (by decide) ?_
      refine V_iload dX12_same_141 rfl ?_
      refine V_if_ge (tgt := 149) dX12_same_143 (by decide) (fun c => ?_) (fun c => ?_)
      · replace hF := (if_pos c).symm.trans hF
        refine V_aload_n dX12_same_149 rfl ?_
        refine X_gC G dX12_same_150 fX12_63 ht.1 rfl ?_
        refine V_iload dX12_same_153 rfl ?_
        refine V_iload dX12_same_155 rfl ?_
        refine V_iconst (v := 2) dX12_same_157 (by decide) ?_
        refine V_irem dX12_same_158 (by decide) ?_
        refine V_if_ne (tgt := 170) dX12_same_159 (by decide) (fun c => ?_) (fun c => ?_)
        · replace hF := (if_neg c).symm.trans hF
          refine V_iload dX12_same_170 rfl ?_
          refine V_bipush (v := 100) dX12_same_172 (by decide) ?_
          refine V_irem dX12_same_174 (by decide) ?_
          obtain ⟨hz, hF⟩ := gv_out hF
          refine X_iast dX12_same_175 ht.2.2.2.2.2.2.2.2.2.2.2.1 hz ?_
          obtain ⟨S2, qS2, hF⟩ := bnd_g hF
          refine V_eqS qS2 ?_
          obtain ⟨x3, qx3, hF⟩ := bnd_g hF
          refine B_iinc (v := 1) qx3 dX12_same_176 rfl (by decide) (by decide) ?_
          refine V_goto (tgt := 121) dX12_same_179 (by decide) ?_
          exact V_lv' (ih _ _ hF) (v_all_c rfl (v_all_c rfl v_all_n))
        · replace hF := (if_pos c).symm.trans hF
          refine V_iload dX12_same_162 rfl ?_
          refine V_bipush (v := 100) dX12_same_164 (by decide) ?_
          refine V_idiv dX12_same_166 (by decide) ?_
          refine V_goto (tgt := 175) dX12_same_167 (by decide) ?_
          obtain ⟨hz, hF⟩ := gv_out hF
          refine X_iast dX12_same_175 ht.2.2.2.2.2.2.2.2.2.2.2.1 hz ?_
          obtain ⟨S4, qS4, hF⟩ := bnd_g hF
          refine V_eqS qS4 ?_
          obtain ⟨x5, qx5, hF⟩ := bnd_g hF
          refine B_iinc (v := 1) qx5 dX12_same_176 rfl (by decide) (by decide) ?_
          refine V_goto (tgt := 121) dX12_same_179 (by decide) ?_
          exact V_lv' (ih _ _ hF) (v_all_c rfl (v_all_c rfl v_all_n))
      · replace hF := (if_neg c).symm.trans hF
        refine V_bipush (v := -2) dX12_same_146 (by decide) ?_
        cases hF
        exact V_ireturn dX12_same_148 rfl rfl ⟨rfl, rfl⟩
set_option maxRecDepth 100000 in
set_option maxHeartbeats 4000000 in
theorem w_X12_same_L18 {l : Launch} {s0 : State} {D : va_G} {a0 : Array Value} {sh : List Sh} {f : Nat} {t : Nat} {p1 : Int32} {p2 : Int32} {p3 : Int32} {p4 : Int32} {p5 : Int32} {p6 : Int32} {p7 : Int32} (ht : isX12 sh t) {r : Int32 × St} {d : Nat} (G : GC l s0 D a0) (hd : 15 ≤ d + 1) : ∀ (n : Nat) (S : St) (l8 : Int32), F_X12_same_L18 sh f t p1 p2 p3 p4 p5 p6 p7 n S l8 = some r → V l s0 D (d + 1) 0 0 mX12_same (fun v h => v = some (.int r.1) ∧ h = wd s0.heap.size sh r.2) v_noX 18 [(0, .ref (s0.heap.size + t)), (1, .int p1), (2, .int p2), (3, .int p3), (4, .int p4), (5, .int p5), (6, .int p6), (7, .int p7), (8, .int l8)] [] (wd s0.heap.size sh S) := by
  intro n
  induction n with
  | zero => intro S l8 hF; cases hF
  | succ n ih =>
    intro S l8 hF
    unfold F_X12_same_L18 at hF
    refine V_iload dX12_same_18 rfl ?_
    refine V_aload_n dX12_same_20 rfl ?_
    refine X_gC G dX12_same_21 fX12_47 ht.1 rfl ?_
    refine X_gI G dX12_same_24 fX12_339 ht.2.2.2.2.2.2.1.1 rfl ?_
    refine V_icmp_ge (tgt := 57) dX12_same_27 (by decide) (fun c => ?_) (fun c => ?_)
    · replace hF := (if_pos c).symm.trans hF
      refine V_aload_n dX12_same_57 rfl ?_
      refine V_aload_n dX12_same_58 rfl ?_
      refine X_gC G dX12_same_59 fX12_47 ht.1 rfl ?_
      refine V_aload_n dX12_same_62 rfl ?_
      refine X_gC G dX12_same_63 fX12_88 ht.1 rfl ?_
      refine V_iconst (v := 0) dX12_same_66 (by decide) ?_
      obtain ⟨y1, hc, hF⟩ := bd hF
      refine V_callV G dX12_same_67 kX12_393 (wd_at ht.1) ⟨by decide, rfl⟩ (s_X12_lays ht ht.2.2.2.2.2.2.1 ht.2.2.2.2.2.2.2.2.2.2.2.2.2.2.2.2.2.2.2.1 G hc (by omega)) rfl (Nat.le_of_ble_eq_true rfl) (fun _ _ _ q => q.elim) ?_
      rintro _ _ ⟨rfl, rfl⟩
      obtain ⟨x2, qx2, hF⟩ := bnd_g hF
      refine B_istore qx2 dX12_same_70 (by decide) ?_
      refine V_aload_n dX12_same_72 rfl ?_
      refine X_gC G dX12_same_73 fX12_91 ht.1 rfl ?_
      refine V_iconst (v := 0) dX12_same_76 (by decide) ?_
      refine V_iload_n dX12_same_77 rfl ?_
      obtain ⟨hz, hF⟩ := gv_out hF
      refine X_iast dX12_same_78 ht.2.2.2.2.2.2.2.2.2.2.2.2.2.2.2.2.2.2.2.2.1 hz ?_
      obtain ⟨S3, qS3, hF⟩ := bnd_g hF
      refine V_eqS qS3 ?_
      refine V_aload_n dX12_same_79 rfl ?_
      refine X_gC G dX12_same_80 fX12_91 ht.1 rfl ?_
      refine V_iconst (v := 1) dX12_same_83 (by decide) ?_
      refine V_iload_n dX12_same_84 rfl ?_
      obtain ⟨hz, hF⟩ := gv_out hF
      refine X_iast dX12_same_85 ht.2.2.2.2.2.2.2.2.2.2.2.2.2.2.2.2.2.2.2.2.1 hz ?_
      obtain ⟨S4, qS4, hF⟩ := bnd_g hF
      refine V_eqS qS4 ?_
      refine V_aload_n dX12_same_86 rfl ?_
      refine X_gC G dX12_same_87 fX12_91 ht.1 rfl ?_
      refine V_iconst (v := 2) dX12_same_90 (by decide) ?_
      refine V_iload dX12_same_91 rfl ?_
      obtain ⟨hz, hF⟩ := gv_out hF
      refine X_iast dX12_same_93 ht.2.2.2.2.2.2.2.2.2.2.2.2.2.2.2.2.2.2.2.2.1 hz ?_
      obtain ⟨S5, qS5, hF⟩ := bnd_g hF
      refine V_eqS qS5 ?_
      refine V_aload_n dX12_same_94 rfl ?_
      refine X_gC G dX12_same_95 fX12_91 ht.1 rfl ?_
      refine V_iconst (v := 3) dX12_same_98 (by decide) ?_
      refine V_iload dX12_same_99 rfl ?_
      obtain ⟨hz, hF⟩ := gv_out hF
      refine X_iast dX12_same_101 ht.2.2.2.2.2.2.2.2.2.2.2.2.2.2.2.2.2.2.2.2.1 hz ?_
      obtain ⟨S6, qS6, hF⟩ := bnd_g hF
      refine V_eqS qS6 ?_
      refine V_aload_n dX12_same_102 rfl ?_
      refine X_gC G dX12_same_103 fX12_91 ht.1 rfl ?_
      refine V_iconst (v := 4) dX12_same_106 (by decide) ?_
      refine V_iload dX12_same_107 rfl ?_
      obtain ⟨hz, hF⟩ := gv_out hF
      refine X_iast dX12_same_109 ht.2.2.2.2.2.2.2.2.2.2.2.2.2.2.2.2.2.2.2.2.1 hz ?_
      obtain ⟨S7, qS7, hF⟩ := bnd_g hF
      refine V_eqS qS7 ?_
      refine V_aload_n dX12_same_110 rfl ?_
      refine X_gC G dX12_same_111 fX12_91 ht.1 rfl ?_
      refine V_iconst (v := 5) dX12_same_114 (by decide) ?_
      refine V_iload dX12_same_115 rfl ?_
      obtain ⟨hz, hF⟩ := gv_out hF
      refine X_iast dX12_same_117 ht.2.2.2.2.2.2.2.2.2.2.2.2.2.2.2.2.2.2.2.2.1 hz ?_
      obtain ⟨S8, qS8, hF⟩ := bnd_g hF
      refine V_eqS qS8 ?_
      refine V_iconst (v := 0) dX12_same_118 (by decide) ?_
      refine V_istore dX12_same_119 (by decide) ?_
      exact V_lv' (w_X12_same_L121 ht G hd f _ _ hF) (v_all_c rfl (v_all_c rfl v_all_n))
    · replace hF := (if_neg c).symm.trans hF
      refine V_aload_n dX12_same_30 rfl ?_
      refine X_gC G dX12_same_31 fX12_88 ht.1 rfl ?_
      refine V_iload dX12_same_34 rfl ?_
      refine V_aload_n dX12_same_36 rfl ?_
      refine X_gC G dX12_same_37 fX12_47 ht.1 rfl ?_
      refine X_gC G dX12_same_40 fX12_407 ht.2.2.2.2.2.2.1.1 rfl ?_
      refine V_iconst (v := 3) dX12_same_43 (by decide) ?_
      refine V_iload_n dX12_same_44 rfl ?_
      refine V_imul dX12_same_45 ?_
      refine V_iload dX12_same_46 rfl ?_
      refine V_iadd dX12_same_48 ?_
      obtain ⟨hz, hF⟩ := gv_out hF
      refine X_iald dX12_same_49 ht.2.2.2.2.2.2.1.2.2.2.1 hz ?_
      obtain ⟨hz, hF⟩ := gv_out hF
      refine X_iast dX12_same_50 ht.2.2.2.2.2.2.2.2.2.2.2.2.2.2.2.2.2.2.2.1 hz ?_
      obtain ⟨S9, qS9, hF⟩ := bnd_g hF
      refine V_eqS qS9 ?_
      obtain ⟨x10, qx10, hF⟩ := bnd_g hF
      refine B_iinc (v := 1) qx10 dX12_same_51 rfl (by decide) (by decide) ?_
      refine V_goto (tgt := 18) dX12_same_54 (by decide) ?_
      exact V_lv' (ih _ _ hF) (v_all_c rfl (v_all_c rfl (v_all_c rfl (v_all_c rfl (v_all_c rfl (v_all_c rfl (v_all_c rfl (v_all_c rfl (v_all_c rfl v_all_n)))))))))
set_option maxRecDepth 100000 in
set_option maxHeartbeats 4000000 in
theorem s_X12_same {l : Launch} {s0 : State} {D : va_G} {a0 : Array Value} {sh : List Sh} {f : Nat} {S : St} {t : Nat} {p1 : Int32} {p2 : Int32} {p3 : Int32} {p4 : Int32} {p5 : Int32} {p6 : Int32} {p7 : Int32} (ht : isX12 sh t) {r : Int32 × St} (G : GC l s0 D a0) (hF : F_X12_same sh f S t p1 p2 p3 p4 p5 p6 p7 = some r) {d : Nat} (hd : 15 ≤ d) : Sp l s0 D d 0 0 mX12_same (fun v h => v = some (.int r.1) ∧ h = wd s0.heap.size sh r.2) v_noX [.ref (s0.heap.size + t), .int p1, .int p2, .int p3, .int p4, .int p5, .int p6, .int p7] (wd s0.heap.size sh S) := by
  obtain ⟨d, rfl⟩ : ∃ e, d = e + 1 := ⟨d - 1, by omega⟩
  refine Sp.of (by decide +kernel) rfl (Nat.le_of_ble_eq_true rfl) ?_
  unfold F_X12_same at hF
  refine V_aload_n dX12_same_0 rfl ?_
  refine V_iconst (v := 0) dX12_same_1 (by decide) ?_
  refine X_pI G dX12_same_2 gX12_147 ht.1 rfl rfl rfl ?_
  obtain ⟨S1, qS1, hF⟩ := bnd_g hF
  refine V_eqS qS1 ?_
  refine V_aload_n dX12_same_5 rfl ?_
  refine V_iload_n dX12_same_6 rfl ?_
  obtain ⟨y2, hc, hF⟩ := bd hF
  refine V_callV G dX12_same_7 kX12_451 (wd_at ht.1) ⟨by decide, rfl⟩ (s_X12_isDrawing ht G hc (by omega)) rfl (Nat.le_of_ble_eq_true rfl) (fun _ _ _ q => q.elim) ?_
  rintro _ _ ⟨rfl, rfl⟩
  refine V_if_ne (tgt := 15) dX12_same_10 (by decide) (fun c => ?_) (fun c => ?_)
  · replace hF := (if_neg c).symm.trans hF
    refine V_iconst (v := 0) dX12_same_15 (by decide) ?_
    refine V_istore dX12_same_16 (by decide) ?_
    exact V_lv' (w_X12_same_L18 ht G hd f _ _ hF) (v_all_c rfl (v_all_c rfl (v_all_c rfl (v_all_c rfl (v_all_c rfl (v_all_c rfl (v_all_c rfl (v_all_c rfl (v_all_c rfl v_all_n)))))))))
  · replace hF := (if_pos c).symm.trans hF
    refine V_iconst (v := -1) dX12_same_13 (by decide) ?_
    cases hF
    exact V_ireturn dX12_same_14 rfl rfl ⟨rfl, rfl⟩
set_option maxRecDepth 100000 in
set_option maxHeartbeats 4000000 in
theorem w_X12_set_L2 {l : Launch} {s0 : State} {D : va_G} {a0 : Array Value} {sh : List Sh} {f : Nat} {p0 n0 : Nat} {p1 : Int32} (hp0 : sh[p0]? = some (.inl (.int, n0))) {r : St} {d : Nat} (G : GC l s0 D a0) (hd : 1 ≤ d + 1) : ∀ (n : Nat) (S : St) (l2 : Int32), F_X12_set_L2 sh f p0 n0 p1 n S l2 = some r → V l s0 D (d + 1) 0 0 mX12_set (fun v h => v = none ∧ h = wd s0.heap.size sh r) v_noX 2 [(0, .ref (s0.heap.size + p0)), (1, .int p1), (2, .int l2)] [] (wd s0.heap.size sh S) := by
  intro n
  induction n with
  | zero => intro S l2 hF; cases hF
  | succ n ih =>
    intro S l2 hF
    unfold F_X12_set_L2 at hF
    refine V_iload_n dX12_set_2 rfl ?_
    refine V_bipush (v := 16) dX12_set_3 (by decide) ?_
    refine V_icmp_ge (tgt := 34) dX12_set_5 (by decide) (fun c => ?_) (fun c => ?_)
    · replace hF := (if_pos c).symm.trans hF
      cases hF
      exact V_return dX12_set_34 rfl ⟨rfl, rfl⟩
    · replace hF := (if_neg c).symm.trans hF
      refine V_aload_n dX12_set_8 rfl ?_
      refine V_iload_n dX12_set_9 rfl ?_
      refine V_iload_n dX12_set_10 rfl ?_
      refine V_if_ne (tgt := 18) dX12_set_11 (by decide) (fun c => ?_) (fun c => ?_)
      · replace hF := (if_neg c).symm.trans hF
        refine V_iload_n dX12_set_18 rfl ?_
        refine V_if_ge (tgt := 26) dX12_set_19 (by decide) (fun c => ?_) (fun c => ?_)
        · replace hF := (if_pos c).symm.trans hF
          refine V_iconst (v := 0) dX12_set_26 (by decide) ?_
          obtain ⟨hz, hF⟩ := gv_out hF
          refine X_iast dX12_set_27 hp0 hz ?_
          obtain ⟨S1, qS1, hF⟩ := bnd_g hF
          refine V_eqS qS1 ?_
          obtain ⟨x2, qx2, hF⟩ := bnd_g hF
          refine B_iinc (v := 1) qx2 dX12_set_28 rfl (by decide) (by decide) ?_
          refine V_goto (tgt := 2) dX12_set_31 (by decide) ?_
          exact V_lv' (ih _ _ hF) (v_all_c rfl (v_all_c rfl (v_all_c rfl v_all_n)))
        · replace hF := (if_neg c).symm.trans hF
          refine V_iconst (v := -1) dX12_set_22 (by decide) ?_
          refine V_goto (tgt := 27) dX12_set_23 (by decide) ?_
          obtain ⟨hz, hF⟩ := gv_out hF
          refine X_iast dX12_set_27 hp0 hz ?_
          obtain ⟨S3, qS3, hF⟩ := bnd_g hF
          refine V_eqS qS3 ?_
          obtain ⟨x4, qx4, hF⟩ := bnd_g hF
          refine B_iinc (v := 1) qx4 dX12_set_28 rfl (by decide) (by decide) ?_
          refine V_goto (tgt := 2) dX12_set_31 (by decide) ?_
          exact V_lv' (ih _ _ hF) (v_all_c rfl (v_all_c rfl (v_all_c rfl v_all_n)))
      · replace hF := (if_pos c).symm.trans hF
        refine V_iload_n dX12_set_14 rfl ?_
        refine V_goto (tgt := 27) dX12_set_15 (by decide) ?_
        obtain ⟨hz, hF⟩ := gv_out hF
        refine X_iast dX12_set_27 hp0 hz ?_
        obtain ⟨S5, qS5, hF⟩ := bnd_g hF
        refine V_eqS qS5 ?_
        obtain ⟨x6, qx6, hF⟩ := bnd_g hF
        refine B_iinc (v := 1) qx6 dX12_set_28 rfl (by decide) (by decide) ?_
        refine V_goto (tgt := 2) dX12_set_31 (by decide) ?_
        exact V_lv' (ih _ _ hF) (v_all_c rfl (v_all_c rfl (v_all_c rfl v_all_n)))
set_option maxRecDepth 100000 in
set_option maxHeartbeats 4000000 in
theorem s_X12_set {l : Launch} {s0 : State} {D : va_G} {a0 : Array Value} {sh : List Sh} {f : Nat} {S : St} {p0 n0 : Nat} {p1 : Int32} (hp0 : sh[p0]? = some (.inl (.int, n0))) {r : St} (G : GC l s0 D a0) (hF : F_X12_set sh f S p0 n0 p1 = some r) {d : Nat} (hd : 1 ≤ d) : Sp l s0 D d 0 0 mX12_set (fun v h => v = none ∧ h = wd s0.heap.size sh r) v_noX [.ref (s0.heap.size + p0), .int p1] (wd s0.heap.size sh S) := by
  obtain ⟨d, rfl⟩ : ∃ e, d = e + 1 := ⟨d - 1, by omega⟩
  refine Sp.of (by decide +kernel) rfl (Nat.le_of_ble_eq_true rfl) ?_
  unfold F_X12_set at hF
  refine V_iconst (v := 0) dX12_set_0 (by decide) ?_
  refine V_istore_n dX12_set_1 (by decide) ?_
  exact V_lv' (w_X12_set_L2 hp0 G hd f _ _ hF) (v_all_c rfl (v_all_c rfl (v_all_c rfl v_all_n)))
set_option maxRecDepth 100000 in
set_option maxHeartbeats 4000000 in
theorem w_X12_copies_L2 {l : Launch} {s0 : State} {D : va_G} {a0 : Array Value} {sh : List Sh} {f : Nat} {p0 n0 : Nat} {p1 n1 : Nat} (hp0 : sh[p0]? = some (.inl (.int, n0))) (hp1 : sh[p1]? = some (.inl (.int, n1))) {r : St} {d : Nat} (G : GC l s0 D a0) (hd : 1 ≤ d + 1) : ∀ (n : Nat) (S : St) (l2 : Int32), F_X12_copies_L2 sh f p0 n0 p1 n1 n S l2 = some r → V l s0 D (d + 1) 0 0 mX12_copies (fun v h => v = none ∧ h = wd s0.heap.size sh r) v_noX 2 [(0, .ref (s0.heap.size + p0)), (1, .ref (s0.heap.size + p1)), (2, .int l2)] [] (wd s0.heap.size sh S) := by
  intro n
  induction n with
  | zero => intro S l2 hF; cases hF
  | succ n ih =>
    intro S l2 hF
    unfold F_X12_copies_L2 at hF
    refine V_iload_n dX12_copies_2 rfl ?_
    refine V_bipush (v := 16) dX12_copies_3 (by decide) ?_
    refine V_icmp_ge (tgt := 20) dX12_copies_5 (by decide) (fun c => ?_) (fun c => ?_)
    · replace hF := (if_pos c).symm.trans hF
      cases hF
      exact V_return dX12_copies_20 rfl ⟨rfl, rfl⟩
    · replace hF := (if_neg c).symm.trans hF
      refine V_aload_n dX12_copies_8 rfl ?_
      refine V_iload_n dX12_copies_9 rfl ?_
      refine V_aload_n dX12_copies_10 rfl ?_
      refine V_iload_n dX12_copies_11 rfl ?_
      obtain ⟨hz, hF⟩ := gv_out hF
      refine X_iald dX12_copies_12 hp1 hz ?_
      obtain ⟨hz, hF⟩ := gv_out hF
      refine X_iast dX12_copies_13 hp0 hz ?_
      obtain ⟨S1, qS1, hF⟩ := bnd_g hF
      refine V_eqS qS1 ?_
      obtain ⟨x2, qx2, hF⟩ := bnd_g hF
      refine B_iinc (v := 1) qx2 dX12_copies_14 rfl (by decide) (by decide) ?_
      refine V_goto (tgt := 2) dX12_copies_17 (by decide) ?_
      exact V_lv' (ih _ _ hF) (v_all_c rfl (v_all_c rfl (v_all_c rfl v_all_n)))
set_option maxRecDepth 100000 in
set_option maxHeartbeats 4000000 in
theorem s_X12_copies {l : Launch} {s0 : State} {D : va_G} {a0 : Array Value} {sh : List Sh} {f : Nat} {S : St} {p0 n0 : Nat} {p1 n1 : Nat} (hp0 : sh[p0]? = some (.inl (.int, n0))) (hp1 : sh[p1]? = some (.inl (.int, n1))) {r : St} (G : GC l s0 D a0) (hF : F_X12_copies sh f S p0 n0 p1 n1 = some r) {d : Nat} (hd : 1 ≤ d) : Sp l s0 D d 0 0 mX12_copies (fun v h => v = none ∧ h = wd s0.heap.size sh r) v_noX [.ref (s0.heap.size + p0), .ref (s0.heap.size + p1)] (wd s0.heap.size sh S) := by
  obtain ⟨d, rfl⟩ : ∃ e, d = e + 1 := ⟨d - 1, by omega⟩
  refine Sp.of (by decide +kernel) rfl (Nat.le_of_ble_eq_true rfl) ?_
  unfold F_X12_copies at hF
  refine V_iconst (v := 0) dX12_copies_0 (by decide) ?_
  refine V_istore_n dX12_copies_1 (by decide) ?_
  exact V_lv' (w_X12_copies_L2 hp0 hp1 G hd f _ _ hF) (v_all_c rfl (v_all_c rfl (v_all_c rfl v_all_n)))
set_option maxRecDepth 100000 in
set_option maxHeartbeats 4000000 in
theorem w_X12_isZero_L4 {l : Launch} {s0 : State} {D : va_G} {a0 : Array Value} {sh : List Sh} {f : Nat} {S : St} {p0 n0 : Nat} (hp0 : sh[p0]? = some (.inl (.int, n0))) {r : Int32} {d : Nat} (G : GC l s0 D a0) (hd : 1 ≤ d + 1) : ∀ (n : Nat) (l1 : Int32) (l2 : Int32), F_X12_isZero_L4 sh f S p0 n0 n l1 l2 = some r → V l s0 D (d + 1) 0 0 mX12_isZero (fun v h => v = some (.int r) ∧ h = wd s0.heap.size sh S) v_noX 4 [(0, .ref (s0.heap.size + p0)), (1, .int l1), (2, .int l2)] [] (wd s0.heap.size sh S) := by
  intro n
  induction n with
  | zero => intro l1 l2 hF; cases hF
  | succ n ih =>
    intro l1 l2 hF
    unfold F_X12_isZero_L4 at hF
    refine V_iload_n dX12_isZero_4 rfl ?_
    refine V_bipush (v := 16) dX12_isZero_5 (by decide) ?_
    refine V_icmp_ge (tgt := 32) dX12_isZero_7 (by decide) (fun c => ?_) (fun c => ?_)
    · replace hF := (if_pos c).symm.trans hF
      refine V_iload_n dX12_isZero_32 rfl ?_
      obtain ⟨hz, hF⟩ := gv_out hF
      cases hF
      exact V_ireturn dX12_isZero_33 rfl (nb_n hz) ⟨rfl, rfl⟩
    · replace hF := (if_neg c).symm.trans hF
      refine V_iload_n dX12_isZero_10 rfl ?_
      refine V_if_eq (tgt := 24) dX12_isZero_11 (by decide) (fun c => ?_) (fun c => ?_)
      · replace hF := (if_pos c).symm.trans hF
        refine V_iconst (v := 0) dX12_isZero_24 (by decide) ?_
        refine V_istore_n dX12_isZero_25 (by decide) ?_
        obtain ⟨x1, qx1, hF⟩ := bnd_g hF
        refine B_iinc (v := 1) qx1 dX12_isZero_26 rfl (by decide) (by decide) ?_
        refine V_goto (tgt := 4) dX12_isZero_29 (by decide) ?_
        exact V_lv' (ih _ _ hF) (v_all_c rfl (v_all_c rfl (v_all_c rfl v_all_n)))
      · replace hF := (if_neg c).symm.trans hF
        refine V_aload_n dX12_isZero_14 rfl ?_
        refine V_iload_n dX12_isZero_15 rfl ?_
        obtain ⟨hz, hF⟩ := gv_out hF
        refine X_iald dX12_isZero_16 hp0 hz ?_
        refine V_if_ne (tgt := 24) dX12_isZero_17 (by decide) (fun c => ?_) (fun c => ?_)
        · replace hF := (if_neg c).symm.trans hF
          refine V_iconst (v := 0) dX12_isZero_24 (by decide) ?_
          refine V_istore_n dX12_isZero_25 (by decide) ?_
          obtain ⟨x2, qx2, hF⟩ := bnd_g hF
          refine B_iinc (v := 1) qx2 dX12_isZero_26 rfl (by decide) (by decide) ?_
          refine V_goto (tgt := 4) dX12_isZero_29 (by decide) ?_
          exact V_lv' (ih _ _ hF) (v_all_c rfl (v_all_c rfl (v_all_c rfl v_all_n)))
        · replace hF := (if_pos c).symm.trans hF
          refine V_iconst (v := 1) dX12_isZero_20 (by decide) ?_
          refine V_goto (tgt := 25) dX12_isZero_21 (by decide) ?_
          refine V_istore_n dX12_isZero_25 (by decide) ?_
          obtain ⟨x3, qx3, hF⟩ := bnd_g hF
          refine B_iinc (v := 1) qx3 dX12_isZero_26 rfl (by decide) (by decide) ?_
          refine V_goto (tgt := 4) dX12_isZero_29 (by decide) ?_
          exact V_lv' (ih _ _ hF) (v_all_c rfl (v_all_c rfl (v_all_c rfl v_all_n)))
set_option maxRecDepth 100000 in
set_option maxHeartbeats 4000000 in
theorem s_X12_isZero {l : Launch} {s0 : State} {D : va_G} {a0 : Array Value} {sh : List Sh} {f : Nat} {S : St} {p0 n0 : Nat} (hp0 : sh[p0]? = some (.inl (.int, n0))) {r : Int32} (G : GC l s0 D a0) (hF : F_X12_isZero sh f S p0 n0 = some r) {d : Nat} (hd : 1 ≤ d) : Sp l s0 D d 0 0 mX12_isZero (fun v h => v = some (.int r) ∧ h = wd s0.heap.size sh S) v_noX [.ref (s0.heap.size + p0)] (wd s0.heap.size sh S) := by
  obtain ⟨d, rfl⟩ : ∃ e, d = e + 1 := ⟨d - 1, by omega⟩
  refine Sp.of (by decide +kernel) rfl (Nat.le_of_ble_eq_true rfl) ?_
  unfold F_X12_isZero at hF
  refine V_iconst (v := 1) dX12_isZero_0 (by decide) ?_
  refine V_istore_n dX12_isZero_1 (by decide) ?_
  refine V_iconst (v := 0) dX12_isZero_2 (by decide) ?_
  refine V_istore_n dX12_isZero_3 (by decide) ?_
  exact V_lv' (w_X12_isZero_L4 hp0 G hd f _ _ hF) (v_all_c rfl (v_all_c rfl (v_all_c rfl v_all_n)))
set_option maxRecDepth 100000 in
set_option maxHeartbeats 4000000 in
theorem w_X12_turns_L4 {l : Launch} {s0 : State} {D : va_G} {a0 : Array Value} {sh : List Sh} {f : Nat} {p0 n0 : Nat} (hp0 : sh[p0]? = some (.inl (.int, n0))) {r : St} {d : Nat} (G : GC l s0 D a0) (hd : 1 ≤ d + 1) : ∀ (n : Nat) (S : St) (l1 : Int64) (l3 : Int32), F_X12_turns_L4 sh f p0 n0 n S l1 l3 = some r → V l s0 D (d + 1) 0 0 mX12_turns (fun v h => v = none ∧ h = wd s0.heap.size sh r) v_noX 4 [(0, .ref (s0.heap.size + p0)), (1, .long l1), (3, .int l3)] [] (wd s0.heap.size sh S) := by
  intro n
  induction n with
  | zero => intro S l1 l3 hF; cases hF
  | succ n ih =>
    intro S l1 l3 hF
    unfold F_X12_turns_L4 at hF
    refine V_iload_n dX12_turns_4 rfl ?_
    refine V_bipush (v := 16) dX12_turns_5 (by decide) ?_
    refine V_icmp_ge (tgt := 39) dX12_turns_7 (by decide) (fun c => ?_) (fun c => ?_)
    · replace hF := (if_pos c).symm.trans hF
      cases hF
      exact V_return dX12_turns_39 rfl ⟨rfl, rfl⟩
    · replace hF := (if_neg c).symm.trans hF
      refine V_lload_n dX12_turns_10 rfl ?_
      refine V_aload_n dX12_turns_11 rfl ?_
      refine V_iload_n dX12_turns_12 rfl ?_
      obtain ⟨hz, hF⟩ := gv_out hF
      refine X_iald dX12_turns_13 hp0 hz ?_
      refine V_iconst (v := -1) dX12_turns_14 (by decide) ?_
      refine V_ixor dX12_turns_15 ?_
      refine V_i2l dX12_turns_16 ?_
      refine V_ldc2 dX12_turns_17 qX12_470 ?_
      refine V_land dX12_turns_20 ?_
      refine V_ladd dX12_turns_21 ?_
      obtain ⟨x1, qx1, hF⟩ := bnd_g hF
      refine B_lstore_n qx1 dX12_turns_22 (by decide) ?_
      refine V_aload_n dX12_turns_23 rfl ?_
      refine V_iload_n dX12_turns_24 rfl ?_
      refine V_lload_n dX12_turns_25 rfl ?_
      refine V_l2i dX12_turns_26 ?_
      obtain ⟨hz, hF⟩ := gv_out hF
      refine X_iast dX12_turns_27 hp0 hz ?_
      obtain ⟨S2, qS2, hF⟩ := bnd_g hF
      refine V_eqS qS2 ?_
      refine V_lload_n dX12_turns_28 rfl ?_
      refine V_bipush (v := 32) dX12_turns_29 (by decide) ?_
      refine V_lushr dX12_turns_31 ?_
      obtain ⟨x3, qx3, hF⟩ := bnd_g hF
      refine B_lstore_n qx3 dX12_turns_32 (by decide) ?_
      obtain ⟨x4, qx4, hF⟩ := bnd_g hF
      refine B_iinc (v := 1) qx4 dX12_turns_33 rfl (by decide) (by decide) ?_
      refine V_goto (tgt := 4) dX12_turns_36 (by decide) ?_
      exact V_lv' (ih _ _ _ hF) (v_all_c rfl (v_all_c rfl (v_all_c rfl v_all_n)))
set_option maxRecDepth 100000 in
set_option maxHeartbeats 4000000 in
theorem s_X12_turns {l : Launch} {s0 : State} {D : va_G} {a0 : Array Value} {sh : List Sh} {f : Nat} {S : St} {p0 n0 : Nat} (hp0 : sh[p0]? = some (.inl (.int, n0))) {r : St} (G : GC l s0 D a0) (hF : F_X12_turns sh f S p0 n0 = some r) {d : Nat} (hd : 1 ≤ d) : Sp l s0 D d 0 0 mX12_turns (fun v h => v = none ∧ h = wd s0.heap.size sh r) v_noX [.ref (s0.heap.size + p0)] (wd s0.heap.size sh S) := by
  obtain ⟨d, rfl⟩ : ∃ e, d = e + 1 := ⟨d - 1, by omega⟩
  refine Sp.of (by decide +kernel) rfl (Nat.le_of_ble_eq_true rfl) ?_
  unfold F_X12_turns at hF
  refine V_lconst (v := 1) dX12_turns_0 (by decide) ?_
  refine V_lstore_n dX12_turns_1 (by decide) ?_
  refine V_iconst (v := 0) dX12_turns_2 (by decide) ?_
  refine V_istore_n dX12_turns_3 (by decide) ?_
  exact V_lv' (w_X12_turns_L4 hp0 G hd f _ _ _ hF) (v_all_c rfl (v_all_c rfl (v_all_c rfl v_all_n)))
set_option maxRecDepth 100000 in
set_option maxHeartbeats 4000000 in
theorem w_X12_adds_L5 {l : Launch} {s0 : State} {D : va_G} {a0 : Array Value} {sh : List Sh} {f : Nat} {p0 n0 : Nat} {p1 n1 : Nat} (hp0 : sh[p0]? = some (.inl (.int, n0))) (hp1 : sh[p1]? = some (.inl (.int, n1))) {r : St} {d : Nat} (G : GC l s0 D a0) (hd : 1 ≤ d + 1) : ∀ (n : Nat) (S : St) (l2 : Int64) (l4 : Int32), F_X12_adds_L5 sh f p0 n0 p1 n1 n S l2 l4 = some r → V l s0 D (d + 1) 0 0 mX12_adds (fun v h => v = none ∧ h = wd s0.heap.size sh r) v_noX 5 [(0, .ref (s0.heap.size + p0)), (1, .ref (s0.heap.size + p1)), (2, .long l2), (4, .int l4)] [] (wd s0.heap.size sh S) := by
  intro n
  induction n with
  | zero => intro S l2 l4 hF; cases hF
  | succ n ih =>
    intro S l2 l4 hF
    unfold F_X12_adds_L5 at hF
    refine V_iload dX12_adds_5 rfl ?_
    refine V_bipush (v := 16) dX12_adds_7 (by decide) ?_
    refine V_icmp_ge (tgt := 51) dX12_adds_9 (by decide) (fun c => ?_) (fun c => ?_)
    · replace hF := (if_pos c).symm.trans hF
      cases hF
      exact V_return dX12_adds_51 rfl ⟨rfl, rfl⟩
    · replace hF := (if_neg c).symm.trans hF
      refine V_lload_n dX12_adds_12 rfl ?_
      refine V_aload_n dX12_adds_13 rfl ?_
      refine V_iload dX12_adds_14 rfl ?_
      obtain ⟨hz, hF⟩ := gv_out hF
      refine X_iald dX12_adds_16 hp0 hz ?_
      refine V_i2l dX12_adds_17 ?_
      refine V_ldc2 dX12_adds_18 qX12_470 ?_
      refine V_land dX12_adds_21 ?_
      refine V_aload_n dX12_adds_22 rfl ?_
      refine V_iload dX12_adds_23 rfl ?_
      obtain ⟨hz, hF⟩ := gv_out hF
      refine X_iald dX12_adds_25 hp1 hz ?_
      refine V_i2l dX12_adds_26 ?_
      refine V_ldc2 dX12_adds_27 qX12_470 ?_
      refine V_land dX12_adds_30 ?_
      refine V_ladd dX12_adds_31 ?_
      refine V_ladd dX12_adds_32 ?_
      obtain ⟨x1, qx1, hF⟩ := bnd_g hF
      refine B_lstore_n qx1 dX12_adds_33 (by decide) ?_
      refine V_aload_n dX12_adds_34 rfl ?_
      refine V_iload dX12_adds_35 rfl ?_
      refine V_lload_n dX12_adds_37 rfl ?_
      refine V_l2i dX12_adds_38 ?_
      obtain ⟨hz, hF⟩ := gv_out hF
      refine X_iast dX12_adds_39 hp0 hz ?_
      obtain ⟨S2, qS2, hF⟩ := bnd_g hF
      refine V_eqS qS2 ?_
      refine V_lload_n dX12_adds_40 rfl ?_
      refine V_bipush (v := 32) dX12_adds_41 (by decide) ?_
      refine V_lushr dX12_adds_43 ?_
      obtain ⟨x3, qx3, hF⟩ := bnd_g hF
      refine B_lstore_n qx3 dX12_adds_44 (by decide) ?_
      obtain ⟨x4, qx4, hF⟩ := bnd_g hF
      refine B_iinc (v := 1) qx4 dX12_adds_45 rfl (by decide) (by decide) ?_
      refine V_goto (tgt := 5) dX12_adds_48 (by decide) ?_
      exact V_lv' (ih _ _ _ hF) (v_all_c rfl (v_all_c rfl (v_all_c rfl (v_all_c rfl v_all_n))))
set_option maxRecDepth 100000 in
set_option maxHeartbeats 4000000 in
theorem s_X12_adds {l : Launch} {s0 : State} {D : va_G} {a0 : Array Value} {sh : List Sh} {f : Nat} {S : St} {p0 n0 : Nat} {p1 n1 : Nat} (hp0 : sh[p0]? = some (.inl (.int, n0))) (hp1 : sh[p1]? = some (.inl (.int, n1))) {r : St} (G : GC l s0 D a0) (hF : F_X12_adds sh f S p0 n0 p1 n1 = some r) {d : Nat} (hd : 1 ≤ d) : Sp l s0 D d 0 0 mX12_adds (fun v h => v = none ∧ h = wd s0.heap.size sh r) v_noX [.ref (s0.heap.size + p0), .ref (s0.heap.size + p1)] (wd s0.heap.size sh S) := by
  obtain ⟨d, rfl⟩ : ∃ e, d = e + 1 := ⟨d - 1, by omega⟩
  refine Sp.of (by decide +kernel) rfl (Nat.le_of_ble_eq_true rfl) ?_
  unfold F_X12_adds at hF
  refine V_lconst (v := 0) dX12_adds_0 (by decide) ?_
  refine V_lstore_n dX12_adds_1 (by decide) ?_
  refine V_iconst (v := 0) dX12_adds_2 (by decide) ?_
  refine V_istore dX12_adds_3 (by decide) ?_
  exact V_lv' (w_X12_adds_L5 hp0 hp1 G hd f _ _ _ hF) (v_all_c rfl (v_all_c rfl (v_all_c rfl (v_all_c rfl v_all_n))))
set_option maxRecDepth 100000 in
set_option maxHeartbeats 4000000 in
theorem w_X12_times_L12 {l : Launch} {s0 : State} {D : va_G} {a0 : Array Value} {sh : List Sh} {f : Nat} {p0 n0 : Nat} {p1 : Int32} (hp0 : sh[p0]? = some (.inl (.int, n0))) {r : St} {d : Nat} (G : GC l s0 D a0) (hd : 2 ≤ d + 1) : ∀ (n : Nat) (S : St) (l2 : Int64) (l4 : Int64) (l6 : Int32), F_X12_times_L12 sh f p0 n0 p1 n S l2 l4 l6 = some r → V l s0 D (d + 1) 0 0 mX12_times (fun v h => v = none ∧ h = wd s0.heap.size sh r) v_noX 12 [(0, .ref (s0.heap.size + p0)), (1, .int p1), (2, .long l2), (4, .long l4), (6, .int l6)] [] (wd s0.heap.size sh S) := by
  intro n
  induction n with
  | zero => intro S l2 l4 l6 hF; cases hF
  | succ n ih =>
    intro S l2 l4 l6 hF
    unfold F_X12_times_L12 at hF
    refine V_iload dX12_times_12 rfl ?_
    refine V_bipush (v := 16) dX12_times_14 (by decide) ?_
    refine V_icmp_ge (tgt := 55) dX12_times_16 (by decide) (fun c => ?_) (fun c => ?_)
    · replace hF := (if_pos c).symm.trans hF
      refine V_iload_n dX12_times_55 rfl ?_
      refine V_if_ge (tgt := 63) dX12_times_56 (by decide) (fun c => ?_) (fun c => ?_)
      · replace hF := (if_pos c).symm.trans hF
        cases hF
        exact V_return dX12_times_63 rfl ⟨rfl, rfl⟩
      · replace hF := (if_neg c).symm.trans hF
        refine V_aload_n dX12_times_59 rfl ?_
        obtain ⟨y1, hc, hF⟩ := bd hF
        refine V_callS dX12_times_60 kX12_476 (s_X12_turns hp0 G hc (by omega)) rfl (Nat.le_of_ble_eq_true rfl) (fun _ _ _ q => q.elim) ?_
        rintro _ _ ⟨rfl, rfl⟩
        cases hF
        exact V_return dX12_times_63 rfl ⟨rfl, rfl⟩
    · replace hF := (if_neg c).symm.trans hF
      refine V_lload dX12_times_19 rfl ?_
      refine V_aload_n dX12_times_21 rfl ?_
      refine V_iload dX12_times_22 rfl ?_
      obtain ⟨hz, hF⟩ := gv_out hF
      refine X_iald dX12_times_24 hp0 hz ?_
      refine V_i2l dX12_times_25 ?_
      refine V_ldc2 dX12_times_26 qX12_470 ?_
      refine V_land dX12_times_29 ?_
      refine V_lload_n dX12_times_30 rfl ?_
      refine V_lmul dX12_times_31 ?_
      refine V_ladd dX12_times_32 ?_
      obtain ⟨x2, qx2, hF⟩ := bnd_g hF
      refine B_lstore qx2 dX12_times_33 (by decide) ?_
      refine V_aload_n dX12_times_35 rfl ?_
      refine V_iload dX12_times_36 rfl ?_
      refine V_lload dX12_times_38 rfl ?_
      refine V_l2i dX12_times_40 ?_
      obtain ⟨hz, hF⟩ := gv_out hF
      refine X_iast dX12_times_41 hp0 hz ?_
      obtain ⟨S3, qS3, hF⟩ := bnd_g hF
      refine V_eqS qS3 ?_
      refine V_lload dX12_times_42 rfl ?_
      refine V_bipush (v := 32) dX12_times_44 (by decide) ?_
      refine V_lushr dX12_times_46 ?_
      obtain ⟨x4, qx4, hF⟩ := bnd_g hF
      refine B_lstore qx4 dX12_times_47 (by decide) ?_
      obtain ⟨x5, qx5, hF⟩ := bnd_g hF
      refine B_iinc (v := 1) qx5 dX12_times_49 rfl (by decide) (by decide) ?_
      refine V_goto (tgt := 12) dX12_times_52 (by decide) ?_
      exact V_lv' (ih _ _ _ _ hF) (v_all_c rfl (v_all_c rfl (v_all_c rfl (v_all_c rfl (v_all_c rfl v_all_n)))))
set_option maxRecDepth 100000 in
set_option maxHeartbeats 4000000 in
theorem s_X12_times {l : Launch} {s0 : State} {D : va_G} {a0 : Array Value} {sh : List Sh} {f : Nat} {S : St} {p0 n0 : Nat} {p1 : Int32} (hp0 : sh[p0]? = some (.inl (.int, n0))) {r : St} (G : GC l s0 D a0) (hF : F_X12_times sh f S p0 n0 p1 = some r) {d : Nat} (hd : 2 ≤ d) : Sp l s0 D d 0 0 mX12_times (fun v h => v = none ∧ h = wd s0.heap.size sh r) v_noX [.ref (s0.heap.size + p0), .int p1] (wd s0.heap.size sh S) := by
  obtain ⟨d, rfl⟩ : ∃ e, d = e + 1 := ⟨d - 1, by omega⟩
  refine Sp.of (by decide +kernel) rfl (Nat.le_of_ble_eq_true rfl) ?_
  unfold F_X12_times at hF
  refine V_iload_n dX12_times_0 rfl ?_
  refine V_i2l dX12_times_1 ?_
  obtain ⟨y1, hc, hF⟩ := bd hF
  refine V_callS dX12_times_2 kX12_472 (s_J9_abs_067f4 G hc (by omega)) rfl (Nat.le_of_ble_eq_true rfl) (fun _ _ _ q => q.elim) ?_
  rintro _ _ ⟨rfl, rfl⟩
  refine V_lstore_n dX12_times_5 (by decide) ?_
  refine V_lconst (v := 0) dX12_times_6 (by decide) ?_
  refine V_lstore dX12_times_7 (by decide) ?_
  refine V_iconst (v := 0) dX12_times_9 (by decide) ?_
  refine V_istore dX12_times_10 (by decide) ?_
  exact V_lv' (w_X12_times_L12 hp0 G hd f _ _ _ _ hF) (v_all_c rfl (v_all_c rfl (v_all_c rfl (v_all_c rfl (v_all_c rfl v_all_n)))))
set_option maxRecDepth 100000 in
set_option maxHeartbeats 4000000 in
theorem w_X12_halves_L2 {l : Launch} {s0 : State} {D : va_G} {a0 : Array Value} {sh : List Sh} {f : Nat} {p0 n0 : Nat} (hp0 : sh[p0]? = some (.inl (.int, n0))) {r : St} {d : Nat} (G : GC l s0 D a0) (hd : 1 ≤ d + 1) : ∀ (n : Nat) (S : St) (l1 : Int32), F_X12_halves_L2 sh f p0 n0 n S l1 = some r → V l s0 D (d + 1) 0 0 mX12_halves (fun v h => v = none ∧ h = wd s0.heap.size sh r) v_noX 2 [(0, .ref (s0.heap.size + p0)), (1, .int l1)] [] (wd s0.heap.size sh S) := by
  intro n
  induction n with
  | zero => intro S l1 hF; cases hF
  | succ n ih =>
    intro S l1 hF
    unfold F_X12_halves_L2 at hF
    refine V_iload_n dX12_halves_2 rfl ?_
    refine V_bipush (v := 16) dX12_halves_3 (by decide) ?_
    refine V_icmp_ge (tgt := 43) dX12_halves_5 (by decide) (fun c => ?_) (fun c => ?_)
    · replace hF := (if_pos c).symm.trans hF
      cases hF
      exact V_return dX12_halves_43 rfl ⟨rfl, rfl⟩
    · replace hF := (if_neg c).symm.trans hF
      refine V_aload_n dX12_halves_8 rfl ?_
      refine V_iload_n dX12_halves_9 rfl ?_
      refine V_aload_n dX12_halves_10 rfl ?_
      refine V_iload_n dX12_halves_11 rfl ?_
      obtain ⟨hz, hF⟩ := gv_out hF
      refine X_iald dX12_halves_12 hp0 hz ?_
      refine V_iconst (v := 1) dX12_halves_13 (by decide) ?_
      refine V_iushr dX12_halves_14 ?_
      refine V_iload_n dX12_halves_15 rfl ?_
      refine V_iconst (v := 1) dX12_halves_16 (by decide) ?_
      refine V_iadd dX12_halves_17 ?_
      refine V_bipush (v := 16) dX12_halves_18 (by decide) ?_
      refine V_icmp_ge (tgt := 34) dX12_halves_20 (by decide) (fun c => ?_) (fun c => ?_)
      · replace hF := (if_pos c).symm.trans hF
        refine V_iconst (v := 0) dX12_halves_34 (by decide) ?_
        refine V_ior dX12_halves_35 ?_
        obtain ⟨hz, hF⟩ := gv_out hF
        refine X_iast dX12_halves_36 hp0 hz ?_
        obtain ⟨S1, qS1, hF⟩ := bnd_g hF
        refine V_eqS qS1 ?_
        obtain ⟨x2, qx2, hF⟩ := bnd_g hF
        refine B_iinc (v := 1) qx2 dX12_halves_37 rfl (by decide) (by decide) ?_
        refine V_goto (tgt := 2) dX12_halves_40 (by decide) ?_
        exact V_lv' (ih _ _ hF) (v_all_c rfl (v_all_c rfl v_all_n))
      · replace hF := (if_neg c).symm.trans hF
        refine V_aload_n dX12_halves_23 rfl ?_
        refine V_iload_n dX12_halves_24 rfl ?_
        refine V_iconst (v := 1) dX12_halves_25 (by decide) ?_
        refine V_iadd dX12_halves_26 ?_
        obtain ⟨hz, hF⟩ := gv_out hF
        refine X_iald dX12_halves_27 hp0 hz ?_
        refine V_bipush (v := 31) dX12_halves_28 (by decide) ?_
        refine V_ishl dX12_halves_30 ?_
        refine V_goto (tgt := 35) dX12_halves_31 (by decide) ?_
        refine V_ior dX12_halves_35 ?_
        obtain ⟨hz, hF⟩ := gv_out hF
        refine X_iast dX12_halves_36 hp0 hz ?_
        obtain ⟨S3, qS3, hF⟩ := bnd_g hF
        refine V_eqS qS3 ?_
        obtain ⟨x4, qx4, hF⟩ := bnd_g hF
        refine B_iinc (v := 1) qx4 dX12_halves_37 rfl (by decide) (by decide) ?_
        refine V_goto (tgt := 2) dX12_halves_40 (by decide) ?_
        exact V_lv' (ih _ _ hF) (v_all_c rfl (v_all_c rfl v_all_n))
set_option maxRecDepth 100000 in
set_option maxHeartbeats 4000000 in
theorem s_X12_halves {l : Launch} {s0 : State} {D : va_G} {a0 : Array Value} {sh : List Sh} {f : Nat} {S : St} {p0 n0 : Nat} (hp0 : sh[p0]? = some (.inl (.int, n0))) {r : St} (G : GC l s0 D a0) (hF : F_X12_halves sh f S p0 n0 = some r) {d : Nat} (hd : 1 ≤ d) : Sp l s0 D d 0 0 mX12_halves (fun v h => v = none ∧ h = wd s0.heap.size sh r) v_noX [.ref (s0.heap.size + p0)] (wd s0.heap.size sh S) := by
  obtain ⟨d, rfl⟩ : ∃ e, d = e + 1 := ⟨d - 1, by omega⟩
  refine Sp.of (by decide +kernel) rfl (Nat.le_of_ble_eq_true rfl) ?_
  unfold F_X12_halves at hF
  refine V_iconst (v := 0) dX12_halves_0 (by decide) ?_
  refine V_istore_n dX12_halves_1 (by decide) ?_
  exact V_lv' (w_X12_halves_L2 hp0 G hd f _ _ hF) (v_all_c rfl (v_all_c rfl v_all_n))
set_option maxRecDepth 100000 in
set_option maxHeartbeats 4000000 in
theorem w_X12_isNoLess_L3 {l : Launch} {s0 : State} {D : va_G} {a0 : Array Value} {sh : List Sh} {f : Nat} {S : St} {p0 n0 : Nat} {p1 n1 : Nat} (hp0 : sh[p0]? = some (.inl (.int, n0))) (hp1 : sh[p1]? = some (.inl (.int, n1))) {r : Int32} {d : Nat} (G : GC l s0 D a0) (hd : 1 ≤ d + 1) : ∀ (n : Nat) (l2 : Int32), F_X12_isNoLess_L3 sh f S p0 n0 p1 n1 n l2 = some r → V l s0 D (d + 1) 0 0 mX12_isNoLess (fun v h => v = some (.int r) ∧ h = wd s0.heap.size sh S) v_noX 3 [(0, .ref (s0.heap.size + p0)), (1, .ref (s0.heap.size + p1)), (2, .int l2)] [] (wd s0.heap.size sh S) := by
  intro n
  induction n with
  | zero => intro l2 hF; cases hF
  | succ n ih =>
    intro l2 hF
    unfold F_X12_isNoLess_L3 at hF
    refine V_iload_n dX12_isNoLess_3 rfl ?_
    refine V_if_lt (tgt := 52) dX12_isNoLess_4 (by decide) (fun c => ?_) (fun c => ?_)
    · replace hF := (if_pos c).symm.trans hF
      refine V_iconst (v := 1) dX12_isNoLess_52 (by decide) ?_
      cases hF
      exact V_ireturn dX12_isNoLess_53 rfl (by decide) ⟨rfl, rfl⟩
    · replace hF := (if_neg c).symm.trans hF
      refine V_aload_n dX12_isNoLess_7 rfl ?_
      refine V_iload_n dX12_isNoLess_8 rfl ?_
      obtain ⟨hz, hF⟩ := gv_out hF
      refine X_iald dX12_isNoLess_9 hp0 hz ?_
      refine V_i2l dX12_isNoLess_10 ?_
      refine V_ldc2 dX12_isNoLess_11 qX12_470 ?_
      refine V_land dX12_isNoLess_14 ?_
      obtain ⟨x1, qx1, hF⟩ := bnd_g hF
      refine B_lstore_n qx1 dX12_isNoLess_15 (by decide) ?_
      refine V_aload_n dX12_isNoLess_16 rfl ?_
      refine V_iload_n dX12_isNoLess_17 rfl ?_
      obtain ⟨hz, hF⟩ := gv_out hF
      refine X_iald dX12_isNoLess_18 hp1 hz ?_
      refine V_i2l dX12_isNoLess_19 ?_
      refine V_ldc2 dX12_isNoLess_20 qX12_470 ?_
      refine V_land dX12_isNoLess_23 ?_
      obtain ⟨x2, qx2, hF⟩ := bnd_g hF
      refine B_lstore qx2 dX12_isNoLess_24 (by decide) ?_
      refine V_lload_n dX12_isNoLess_26 rfl ?_
      refine V_lload dX12_isNoLess_27 rfl ?_
      refine V_lcmp dX12_isNoLess_29 ?_
      refine V_if_eq (tgt := 46) dX12_isNoLess_30 (by decide) (fun c => ?_) (fun c => ?_)
      · replace hF := (if_pos c).symm.trans hF
        obtain ⟨x3, qx3, hF⟩ := bnd_g hF
        refine B_iinc (v := -1) qx3 dX12_isNoLess_46 rfl (by decide) (by decide) ?_
        refine V_goto (tgt := 3) dX12_isNoLess_49 (by decide) ?_
        exact V_lv' (ih _ hF) (v_all_c rfl (v_all_c rfl (v_all_c rfl v_all_n)))
      · replace hF := (if_neg c).symm.trans hF
        refine V_lload_n dX12_isNoLess_33 rfl ?_
        refine V_lload dX12_isNoLess_34 rfl ?_
        refine V_lcmp dX12_isNoLess_36 ?_
        refine V_if_le (tgt := 44) dX12_isNoLess_37 (by decide) (fun c => ?_) (fun c => ?_)
        · replace hF := (if_pos c).symm.trans hF
          refine V_iconst (v := 0) dX12_isNoLess_44 (by decide) ?_
          cases hF
          exact V_ireturn dX12_isNoLess_45 rfl (by decide) ⟨rfl, rfl⟩
        · replace hF := (if_neg c).symm.trans hF
          refine V_iconst (v := 1) dX12_isNoLess_40 (by decide) ?_
          refine V_goto (tgt := 45) dX12_isNoLess_41 (by decide) ?_
          cases hF
          exact V_ireturn dX12_isNoLess_45 rfl (by decide) ⟨rfl, rfl⟩
set_option maxRecDepth 100000 in
set_option maxHeartbeats 4000000 in
theorem s_X12_isNoLess {l : Launch} {s0 : State} {D : va_G} {a0 : Array Value} {sh : List Sh} {f : Nat} {S : St} {p0 n0 : Nat} {p1 n1 : Nat} (hp0 : sh[p0]? = some (.inl (.int, n0))) (hp1 : sh[p1]? = some (.inl (.int, n1))) {r : Int32} (G : GC l s0 D a0) (hF : F_X12_isNoLess sh f S p0 n0 p1 n1 = some r) {d : Nat} (hd : 1 ≤ d) : Sp l s0 D d 0 0 mX12_isNoLess (fun v h => v = some (.int r) ∧ h = wd s0.heap.size sh S) v_noX [.ref (s0.heap.size + p0), .ref (s0.heap.size + p1)] (wd s0.heap.size sh S) := by
  obtain ⟨d, rfl⟩ : ∃ e, d = e + 1 := ⟨d - 1, by omega⟩
  refine Sp.of (by decide +kernel) rfl (Nat.le_of_ble_eq_true rfl) ?_
  unfold F_X12_isNoLess at hF
  refine V_bipush (v := 15) dX12_isNoLess_0 (by decide) ?_
  refine V_istore_n dX12_isNoLess_2 (by decide) ?_
  exact V_lv' (w_X12_isNoLess_L3 hp0 hp1 G hd f _ hF) (v_all_c rfl (v_all_c rfl (v_all_c rfl v_all_n)))

