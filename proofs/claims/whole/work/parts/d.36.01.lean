set_option maxRecDepth 100000 in
set_option maxHeartbeats 4000000 in
theorem s_X12_readNew {l : Launch} {s0 : State} {D : va_G} {a0 : Array Value} {sh : List Sh} {f : Nat} {S : St} {t : Nat} (ht : isX12 sh t) {r : (Int32 × St) ⊕ (Nat × St)} (G2 : GC2 l s0 D a0) (hF : F_X12_readNew sh f S t = some r) {d : Nat} (hd : 9 ≤ d) : Sp l s0 D d 0 0 mX12_readNew (fun v h => ∃ y, r = .inl y ∧ v = some (.int y.1) ∧ h = wd s0.heap.size sh y.2) (fun q E h => ∃ y : Nat × St, r = .inr y ∧ q = s0.heap.size + y.1 ∧ E = RX11 ∧ h = wd s0.heap.size sh y.2) [.ref (s0.heap.size + t)] (wd s0.heap.size sh S) := by
  have G := G2.1
  obtain ⟨d, rfl⟩ : ∃ e, d = e + 1 := ⟨d - 1, by omega⟩
  refine Sp.of (by decide +kernel) rfl (Nat.le_of_ble_eq_true rfl) ?_
  unfold F_X12_readNew at hF
  refine V_aload_n dX12_readNew_0 rfl ?_
  obtain ⟨y1, hc, hF⟩ := bd hF
  refine V_callV G dX12_readNew_1 kX12_264 (wd_at ht.1) ⟨by decide, rfl⟩ (s_X12_isName ht G2 hc (by omega)) rfl (Nat.le_of_ble_eq_true rfl) (fun _ _ _ q => q.elim) ?_
  rintro _ _ ⟨rfl, rfl⟩
  refine V_if_ne (tgt := 13) dX12_readNew_4 (by decide) (fun c => ?_) (fun c => ?_)
  · replace hF := (if_neg c).symm.trans hF
    refine V_aload_n dX12_readNew_13 rfl ?_
    obtain ⟨b2, hrb2, hF⟩ := bd hF
    obtain ⟨hb2, hF⟩ := gv_in hF
    replace hb2 := ckX9_ok hb2
    refine X_gR G dX12_readNew_14 fX12_19 ht.1 rfl hrb2 ?_
    refine V_aload_n dX12_readNew_17 rfl ?_
    refine X_gJ G dX12_readNew_18 fX12_196 ht.1 rfl ?_
    obtain ⟨y3, hc, hF⟩ := bd hF
    refine V_callV G dX12_readNew_21 kX12_268 (wd_at hb2.1) ⟨by decide, rfl⟩ (s_X9_kindOf hb2 G hc (by omega)) rfl (Nat.le_of_ble_eq_true rfl) (fun _ _ _ q => q.elim) ?_
    rintro _ _ ⟨rfl, rfl⟩
    refine V_iconst (v := -1) dX12_readNew_24 (by decide) ?_
    refine V_icmp_eq (tgt := 34) dX12_readNew_25 (by decide) (fun c => ?_) (fun c => ?_)
    · replace hF := (if_pos c).symm.trans hF
      refine V_aload_n dX12_readNew_34 rfl ?_
      obtain ⟨b4, hrb4, hF⟩ := bd hF
      obtain ⟨hb4, hF⟩ := gv_in hF
      replace hb4 := ckX9_ok hb4
      refine X_gR G dX12_readNew_35 fX12_19 ht.1 rfl hrb4 ?_
      refine X_gI G dX12_readNew_38 fX12_272 hb4.1 rfl ?_
      refine V_bipush (v := 8) dX12_readNew_41 (by decide) ?_
      refine V_icmp_ne (tgt := 53) dX12_readNew_43 (by decide) (fun c => ?_) (fun c => ?_)
      · replace hF := (if_neg c).symm.trans hF
        refine V_aload_n dX12_readNew_53 rfl ?_
        obtain ⟨b5, hrb5, hF⟩ := bd hF
        obtain ⟨hb5, hF⟩ := gv_in hF
        replace hb5 := ckX9_ok hb5
        refine X_gR G dX12_readNew_54 fX12_19 ht.1 rfl hrb5 ?_
        refine X_gC G dX12_readNew_57 fX12_275 hb5.1 rfl ?_
        refine V_aload_n dX12_readNew_60 rfl ?_
        obtain ⟨b6, hrb6, hF⟩ := bd hF
        obtain ⟨hb6, hF⟩ := gv_in hF
        replace hb6 := ckX9_ok hb6
        refine X_gR G dX12_readNew_61 fX12_19 ht.1 rfl hrb6 ?_
        refine X_gI G dX12_readNew_64 fX12_272 hb6.1 rfl ?_
        refine V_aload_n dX12_readNew_67 rfl ?_
        refine X_gJ G dX12_readNew_68 fX12_196 ht.1 rfl ?_
        obtain ⟨hz, hF⟩ := gv_out hF
        refine X_last dX12_readNew_71 hb5.2.1 hz ?_
        obtain ⟨S7, qS7, hF⟩ := bnd_g hF
        refine V_eqS qS7 ?_
        refine V_aload_n dX12_readNew_72 rfl ?_
        obtain ⟨b8, hrb8, hF⟩ := bd hF
        obtain ⟨hb8, hF⟩ := gv_in hF
        replace hb8 := ckX9_ok hb8
        refine X_gR G dX12_readNew_73 fX12_19 ht.1 rfl hrb8 ?_
        refine V_dup dX12_readNew_76 rfl ?_
        refine X_gI G dX12_readNew_77 fX12_272 hb8.1 rfl ?_
        refine V_iconst (v := 1) dX12_readNew_80 (by decide) ?_
        refine V_iadd dX12_readNew_81 ?_
        refine X_pI G dX12_readNew_82 gX12_272 hb8.1 rfl rfl rfl ?_
        obtain ⟨S9, qS9, hF⟩ := bnd_g hF
        refine V_eqS qS9 ?_
        refine V_aload_n dX12_readNew_85 rfl ?_
        obtain ⟨y10, hc, hF⟩ := bd hF
        refine V_callV G dX12_readNew_86 kX12_236 (wd_at ht.1) ⟨by decide, rfl⟩ (s_X12_next ht G hc (by omega)) rfl (Nat.le_of_ble_eq_true rfl) (fun _ _ _ q => q.elim) ?_
        rintro _ _ ⟨rfl, rfl⟩
        refine V_aload_n dX12_readNew_89 rfl ?_
        obtain ⟨b11, hrb11, hF⟩ := bd hF
        obtain ⟨hb11, hF⟩ := gv_in hF
        replace hb11 := ckX9_ok hb11
        refine X_gR G dX12_readNew_90 fX12_19 ht.1 rfl hrb11 ?_
        refine X_gI G dX12_readNew_93 fX12_272 hb11.1 rfl ?_
        refine V_iconst (v := 1) dX12_readNew_96 (by decide) ?_
        refine V_isub dX12_readNew_97 ?_
        cases hF
        exact V_ireturn dX12_readNew_98 rfl rfl ⟨_, rfl, rfl, rfl⟩
      · replace hF := (if_pos c).symm.trans hF
        refine V_aload_n dX12_readNew_46 rfl ?_
        refine V_bipush (v := 6) dX12_readNew_47 (by decide) ?_
        obtain ⟨y12, hc, hF⟩ := bd hF
        refine V_callV G dX12_readNew_49 kX12_230 (wd_at ht.1) ⟨by decide, rfl⟩ (s_X12_stop ht G hc (by omega)) rfl (Nat.le_of_ble_eq_true rfl) (fun _ _ _ q => q.elim) ?_
        rintro _ _ ⟨rfl, rfl⟩
        obtain ⟨hy12, hF⟩ := gv_out hF
        replace hy12 := ckX11_ok (Decidable.not_not.mp hy12)
        cases hF
        exact V_athrow G dX12_readNew_52 (wd_at hy12) (by decide) rfl (fun x hx => nomatch hx) ⟨_, rfl, rfl, rfl, rfl⟩
    · replace hF := (if_neg c).symm.trans hF
      refine V_aload_n dX12_readNew_28 rfl ?_
      refine V_iconst (v := 3) dX12_readNew_29 (by decide) ?_
      obtain ⟨y13, hc, hF⟩ := bd hF
      refine V_callV G dX12_readNew_30 kX12_230 (wd_at ht.1) ⟨by decide, rfl⟩ (s_X12_stop ht G hc (by omega)) rfl (Nat.le_of_ble_eq_true rfl) (fun _ _ _ q => q.elim) ?_
      rintro _ _ ⟨rfl, rfl⟩
      obtain ⟨hy13, hF⟩ := gv_out hF
      replace hy13 := ckX11_ok (Decidable.not_not.mp hy13)
      cases hF
      exact V_athrow G dX12_readNew_33 (wd_at hy13) (by decide) rfl (fun x hx => nomatch hx) ⟨_, rfl, rfl, rfl, rfl⟩
  · replace hF := (if_pos c).symm.trans hF
    refine V_aload_n dX12_readNew_7 rfl ?_
    refine V_iconst (v := 1) dX12_readNew_8 (by decide) ?_
    obtain ⟨y14, hc, hF⟩ := bd hF
    refine V_callV G dX12_readNew_9 kX12_230 (wd_at ht.1) ⟨by decide, rfl⟩ (s_X12_stop ht G hc (by omega)) rfl (Nat.le_of_ble_eq_true rfl) (fun _ _ _ q => q.elim) ?_
    rintro _ _ ⟨rfl, rfl⟩
    obtain ⟨hy14, hF⟩ := gv_out hF
    replace hy14 := ckX11_ok (Decidable.not_not.mp hy14)
    cases hF
    exact V_athrow G dX12_readNew_12 (wd_at hy14) (by decide) rfl (fun x hx => nomatch hx) ⟨_, rfl, rfl, rfl, rfl⟩
set_option maxRecDepth 100000 in
set_option maxHeartbeats 4000000 in
theorem w_X12_readInt_L22 {l : Launch} {s0 : State} {D : va_G} {a0 : Array Value} {sh : List Sh} {f : Nat} {t : Nat} {p1 : Int32} {p2 : Int32} (ht : isX12 sh t) {r : (Int32 × St) ⊕ (Nat × St)} {d : Nat} (G : GC l s0 D a0) (hd : 3 ≤ d + 1) : ∀ (S : St) (l3 : Int32) (l4 : Int32), F_X12_readInt_L22 sh f t p1 p2 S l3 l4 = some r → V l s0 D (d + 1) 0 0 mX12_readInt (fun v h => ∃ y, r = .inl y ∧ v = some (.int y.1) ∧ h = wd s0.heap.size sh y.2) (fun q E h => ∃ y : Nat × St, r = .inr y ∧ q = s0.heap.size + y.1 ∧ E = RX11 ∧ h = wd s0.heap.size sh y.2) 22 [(0, .ref (s0.heap.size + t)), (1, .int p1), (2, .int p2), (3, .int l3), (4, .int l4)] [] (wd s0.heap.size sh S) := by
  intro S l3 l4 hF
  unfold F_X12_readInt_L22 at hF
  refine V_aload_n dX12_readInt_22 rfl ?_
  refine X_gI G dX12_readInt_23 fX12_186 ht.1 rfl ?_
  refine V_iconst (v := 3) dX12_readInt_26 (by decide) ?_
  refine V_icmp_eq (tgt := 36) dX12_readInt_27 (by decide) (fun c => ?_) (fun c => ?_)
  · replace hF := (if_pos c).symm.trans hF
    refine V_aload_n dX12_readInt_36 rfl ?_
    refine X_gI G dX12_readInt_37 fX12_202 ht.1 rfl ?_
    refine V_iload_n dX12_readInt_40 rfl ?_
    refine V_icmp_gt (tgt := 55) dX12_readInt_41 (by decide) (fun c => ?_) (fun c => ?_)
    · replace hF := (if_pos c).symm.trans hF
      refine V_aload_n dX12_readInt_55 rfl ?_
      refine V_iconst (v := 4) dX12_readInt_56 (by decide) ?_
      refine V_iload_n dX12_readInt_57 rfl ?_
      obtain ⟨y1, hc, hF⟩ := bd hF
      refine V_callV G dX12_readInt_58 kX12_160 (wd_at ht.1) ⟨by decide, rfl⟩ (s_X12_stopAt ht G hc (by omega)) rfl (Nat.le_of_ble_eq_true rfl) (fun _ _ _ q => q.elim) ?_
      rintro _ _ ⟨rfl, rfl⟩
      obtain ⟨hy1, hF⟩ := gv_out hF
      replace hy1 := ckX11_ok (Decidable.not_not.mp hy1)
      cases hF
      exact V_athrow G dX12_readInt_61 (wd_at hy1) (by decide) rfl (fun x hx => nomatch hx) ⟨_, rfl, rfl, rfl, rfl⟩
    · replace hF := (if_neg c).symm.trans hF
      refine V_iload_n dX12_readInt_44 rfl ?_
      refine V_if_eq (tgt := 62) dX12_readInt_45 (by decide) (fun c => ?_) (fun c => ?_)
      · replace hF := (if_pos c).symm.trans hF
        refine V_iload dX12_readInt_62 rfl ?_
        refine V_if_eq (tgt := 75) dX12_readInt_64 (by decide) (fun c => ?_) (fun c => ?_)
        · replace hF := (if_pos c).symm.trans hF
          refine V_aload_n dX12_readInt_75 rfl ?_
          refine X_gI G dX12_readInt_76 fX12_202 ht.1 rfl ?_
          obtain ⟨x2, qx2, hF⟩ := bnd_g hF
          refine B_istore qx2 dX12_readInt_79 (by decide) ?_
          refine V_aload_n dX12_readInt_81 rfl ?_
          obtain ⟨y3, hc, hF⟩ := bd hF
          refine V_callV G dX12_readInt_82 kX12_236 (wd_at ht.1) ⟨by decide, rfl⟩ (s_X12_next ht G hc (by omega)) rfl (Nat.le_of_ble_eq_true rfl) (fun _ _ _ q => q.elim) ?_
          rintro _ _ ⟨rfl, rfl⟩
          refine V_iload dX12_readInt_85 rfl ?_
          cases hF
          exact V_ireturn dX12_readInt_87 rfl rfl ⟨_, rfl, rfl, rfl⟩
        · replace hF := (if_neg c).symm.trans hF
          refine V_aload_n dX12_readInt_67 rfl ?_
          refine X_gI G dX12_readInt_68 fX12_202 ht.1 rfl ?_
          refine V_ineg dX12_readInt_71 ?_
          refine V_goto (tgt := 79) dX12_readInt_72 (by decide) ?_
          obtain ⟨x4, qx4, hF⟩ := bnd_g hF
          refine B_istore qx4 dX12_readInt_79 (by decide) ?_
          refine V_aload_n dX12_readInt_81 rfl ?_
          obtain ⟨y5, hc, hF⟩ := bd hF
          refine V_callV G dX12_readInt_82 kX12_236 (wd_at ht.1) ⟨by decide, rfl⟩ (s_X12_next ht G hc (by omega)) rfl (Nat.le_of_ble_eq_true rfl) (fun _ _ _ q => q.elim) ?_
          rintro _ _ ⟨rfl, rfl⟩
          refine V_iload dX12_readInt_85 rfl ?_
          cases hF
          exact V_ireturn dX12_readInt_87 rfl rfl ⟨_, rfl, rfl, rfl⟩
      · replace hF := (if_neg c).symm.trans hF
        refine V_aload_n dX12_readInt_48 rfl ?_
        refine X_gI G dX12_readInt_49 fX12_202 ht.1 rfl ?_
        refine V_if_ne (tgt := 62) dX12_readInt_52 (by decide) (fun c => ?_) (fun c => ?_)
        · replace hF := (if_neg c).symm.trans hF
          refine V_iload dX12_readInt_62 rfl ?_
          refine V_if_eq (tgt := 75) dX12_readInt_64 (by decide) (fun c => ?_) (fun c => ?_)
          · replace hF := (if_pos c).symm.trans hF
            refine V_aload_n dX12_readInt_75 rfl ?_
            refine X_gI G dX12_readInt_76 fX12_202 ht.1 rfl ?_
            obtain ⟨x6, qx6, hF⟩ := bnd_g hF
            refine B_istore qx6 dX12_readInt_79 (by decide) ?_
            refine V_aload_n dX12_readInt_81 rfl ?_
            obtain ⟨y7, hc, hF⟩ := bd hF
            refine V_callV G dX12_readInt_82 kX12_236 (wd_at ht.1) ⟨by decide, rfl⟩ (s_X12_next ht G hc (by omega)) rfl (Nat.le_of_ble_eq_true rfl) (fun _ _ _ q => q.elim) ?_
            rintro _ _ ⟨rfl, rfl⟩
            refine V_iload dX12_readInt_85 rfl ?_
            cases hF
            exact V_ireturn dX12_readInt_87 rfl rfl ⟨_, rfl, rfl, rfl⟩
          · replace hF := (if_neg c).symm.trans hF
            refine V_aload_n dX12_readInt_67 rfl ?_
            refine X_gI G dX12_readInt_68 fX12_202 ht.1 rfl ?_
            refine V_ineg dX12_readInt_71 ?_
            refine V_goto (tgt := 79) dX12_readInt_72 (by decide) ?_
            obtain ⟨x8, qx8, hF⟩ := bnd_g hF
            refine B_istore qx8 dX12_readInt_79 (by decide) ?_
            refine V_aload_n dX12_readInt_81 rfl ?_
            obtain ⟨y9, hc, hF⟩ := bd hF
            refine V_callV G dX12_readInt_82 kX12_236 (wd_at ht.1) ⟨by decide, rfl⟩ (s_X12_next ht G hc (by omega)) rfl (Nat.le_of_ble_eq_true rfl) (fun _ _ _ q => q.elim) ?_
            rintro _ _ ⟨rfl, rfl⟩
            refine V_iload dX12_readInt_85 rfl ?_
            cases hF
            exact V_ireturn dX12_readInt_87 rfl rfl ⟨_, rfl, rfl, rfl⟩
        · replace hF := (if_pos c).symm.trans hF
          refine V_aload_n dX12_readInt_55 rfl ?_
          refine V_iconst (v := 4) dX12_readInt_56 (by decide) ?_
          refine V_iload_n dX12_readInt_57 rfl ?_
          obtain ⟨y10, hc, hF⟩ := bd hF
          refine V_callV G dX12_readInt_58 kX12_160 (wd_at ht.1) ⟨by decide, rfl⟩ (s_X12_stopAt ht G hc (by omega)) rfl (Nat.le_of_ble_eq_true rfl) (fun _ _ _ q => q.elim) ?_
          rintro _ _ ⟨rfl, rfl⟩
          obtain ⟨hy10, hF⟩ := gv_out hF
          replace hy10 := ckX11_ok (Decidable.not_not.mp hy10)
          cases hF
          exact V_athrow G dX12_readInt_61 (wd_at hy10) (by decide) rfl (fun x hx => nomatch hx) ⟨_, rfl, rfl, rfl, rfl⟩
  · replace hF := (if_neg c).symm.trans hF
    refine V_aload_n dX12_readInt_30 rfl ?_
    refine V_iconst (v := 1) dX12_readInt_31 (by decide) ?_
    obtain ⟨y11, hc, hF⟩ := bd hF
    refine V_callV G dX12_readInt_32 kX12_230 (wd_at ht.1) ⟨by decide, rfl⟩ (s_X12_stop ht G hc (by omega)) rfl (Nat.le_of_ble_eq_true rfl) (fun _ _ _ q => q.elim) ?_
    rintro _ _ ⟨rfl, rfl⟩
    obtain ⟨hy11, hF⟩ := gv_out hF
    replace hy11 := ckX11_ok (Decidable.not_not.mp hy11)
    cases hF
    exact V_athrow G dX12_readInt_35 (wd_at hy11) (by decide) rfl (fun x hx => nomatch hx) ⟨_, rfl, rfl, rfl, rfl⟩
set_option maxRecDepth 100000 in
set_option maxHeartbeats 4000000 in
theorem s_X12_readInt {l : Launch} {s0 : State} {D : va_G} {a0 : Array Value} {sh : List Sh} {f : Nat} {S : St} {t : Nat} {p1 : Int32} {p2 : Int32} (ht : isX12 sh t) {r : (Int32 × St) ⊕ (Nat × St)} (G : GC l s0 D a0) (hF : F_X12_readInt sh f S t p1 p2 = some r) {d : Nat} (hd : 3 ≤ d) : Sp l s0 D d 0 0 mX12_readInt (fun v h => ∃ y, r = .inl y ∧ v = some (.int y.1) ∧ h = wd s0.heap.size sh y.2) (fun q E h => ∃ y : Nat × St, r = .inr y ∧ q = s0.heap.size + y.1 ∧ E = RX11 ∧ h = wd s0.heap.size sh y.2) [.ref (s0.heap.size + t), .int p1, .int p2] (wd s0.heap.size sh S) := by
  obtain ⟨d, rfl⟩ : ∃ e, d = e + 1 := ⟨d - 1, by omega⟩
  refine Sp.of (by decide +kernel) rfl (Nat.le_of_ble_eq_true rfl) ?_
  unfold F_X12_readInt at hF
  refine V_aload_n dX12_readInt_0 rfl ?_
  refine X_gI G dX12_readInt_1 fX12_159 ht.1 rfl ?_
  obtain ⟨x1, qx1, hF⟩ := bnd_g hF
  refine B_istore_n qx1 dX12_readInt_4 (by decide) ?_
  refine V_aload_n dX12_readInt_5 rfl ?_
  refine V_bipush (v := 45) dX12_readInt_6 (by decide) ?_
  obtain ⟨y2, hc, hF⟩ := bd hF
  refine V_callV G dX12_readInt_8 kX12_233 (wd_at ht.1) ⟨by decide, rfl⟩ (s_X12_is ht G hc (by omega)) rfl (Nat.le_of_ble_eq_true rfl) (fun _ _ _ q => q.elim) ?_
  rintro _ _ ⟨rfl, rfl⟩
  refine V_istore dX12_readInt_11 (by decide) ?_
  refine V_iload dX12_readInt_13 rfl ?_
  refine V_if_eq (tgt := 22) dX12_readInt_15 (by decide) (fun c => ?_) (fun c => ?_)
  · replace hF := (if_pos c).symm.trans hF
    exact V_lv' (w_X12_readInt_L22 ht G hd _ _ _ hF) (v_all_c rfl (v_all_c rfl (v_all_c rfl (v_all_c rfl (v_all_c rfl v_all_n)))))
  · replace hF := (if_neg c).symm.trans hF
    refine V_aload_n dX12_readInt_18 rfl ?_
    obtain ⟨y3, hc, hF⟩ := bd hF
    refine V_callV G dX12_readInt_19 kX12_236 (wd_at ht.1) ⟨by decide, rfl⟩ (s_X12_next ht G hc (by omega)) rfl (Nat.le_of_ble_eq_true rfl) (fun _ _ _ q => q.elim) ?_
    rintro _ _ ⟨rfl, rfl⟩
    exact V_lv' (w_X12_readInt_L22 ht G hd _ _ _ hF) (v_all_c rfl (v_all_c rfl (v_all_c rfl (v_all_c rfl (v_all_c rfl v_all_n)))))
set_option maxRecDepth 100000 in
set_option maxHeartbeats 4000000 in
theorem w_X12_readKinds_L137 {l : Launch} {s0 : State} {D : va_G} {a0 : Array Value} {sh : List Sh} {f : Nat} {t : Nat} {p1 : Int32} (ht : isX12 sh t) {r : (St) ⊕ (Nat × St)} {d : Nat} (G2 : GC2 l s0 D a0) (hd : 10 ≤ d + 1) {k85 : St → Int32 → Int32 → Int32 → Int32 → Int32 → Option ((St) ⊕ (Nat × St))} (hk85 : ∀ (S : St) (l2 : Int32) (l3 : Int32) (l4 : Int32) (l5 : Int32) (l6 : Int32), k85 S l2 l3 l4 l5 l6 = some r → V l s0 D (d + 1) 0 0 mX12_readKinds (fun v h => ∃ y, r = .inl y ∧ v = none ∧ h = wd s0.heap.size sh y) (fun q E h => ∃ y : Nat × St, r = .inr y ∧ q = s0.heap.size + y.1 ∧ E = RX11 ∧ h = wd s0.heap.size sh y.2) 85 [(0, .ref (s0.heap.size + t)), (1, .int p1), (2, .int l2), (3, .int l3), (4, .int l4), (5, .int l5), (6, .int l6)] [] (wd s0.heap.size sh S)) : ∀ (S : St) (l2 : Int32) (l3 : Int32) (l4 : Int32) (l5 : Int32) (l6 : Int32) (v0 : Nat) (v1 : Int32) (v2 : Int32),sh[v0]? = some (.inl (.int, 8)) → F_X12_readKinds_L137 sh f t p1 k85 S l2 l3 l4 l5 l6 v0 v1 v2 = some r → V l s0 D (d + 1) 0 0 mX12_readKinds (fun v h => ∃ y, r = .inl y ∧ v = none ∧ h = wd s0.heap.size sh y) (fun q E h => ∃ y : Nat × St, r = .inr y ∧ q = s0.heap.size + y.1 ∧ E = RX11 ∧ h = wd s0.heap.size sh y.2) 137 [(0, .ref (s0.heap.size + t)), (1, .int p1), (2, .int l2), (3, .int l3), (4, .int l4), (5, .int l5), (6, .int l6)] [.int v2, .int v1, .ref (s0.heap.size + v0)] (wd s0.heap.size sh S) := by
  have G := G2.1
  intro S l2 l3 l4 l5 l6 v0 v1 v2 hv0 hF
  unfold F_X12_readKinds_L137 at hF
  obtain ⟨hz, hF⟩ := gv_out hF
  refine X_iast dX12_readKinds_137 hv0 hz ?_
  obtain ⟨S1, qS1, hF⟩ := bnd_g hF
  refine V_eqS qS1 ?_
  refine V_aload_n dX12_readKinds_138 rfl ?_
  obtain ⟨b2, hrb2, hF⟩ := bd hF
  obtain ⟨hb2, hF⟩ := gv_in hF
  replace hb2 := ckX9_ok hb2
  refine X_gR G dX12_readKinds_139 fX12_19 ht.1 rfl hrb2 ?_
  refine X_gC G dX12_readKinds_142 fX12_257 hb2.1 rfl ?_
  refine V_iload dX12_readKinds_145 rfl ?_
  refine V_iload_n dX12_readKinds_147 rfl ?_
  refine V_iload_n dX12_readKinds_148 rfl ?_
  refine V_iadd dX12_readKinds_149 ?_
  refine V_iload dX12_readKinds_150 rfl ?_
  refine V_isub dX12_readKinds_152 ?_
  obtain ⟨hz, hF⟩ := gv_out hF
  refine X_iast dX12_readKinds_153 hb2.2.2.1 hz ?_
  obtain ⟨S3, qS3, hF⟩ := bnd_g hF
  refine V_eqS qS3 ?_
  refine V_aload_n dX12_readKinds_154 rfl ?_
  obtain ⟨b4, hrb4, hF⟩ := bd hF
  obtain ⟨hb4, hF⟩ := gv_in hF
  replace hb4 := ckX9_ok hb4
  refine X_gR G dX12_readKinds_155 fX12_19 ht.1 rfl hrb4 ?_
  refine X_gC G dX12_readKinds_158 fX12_260 hb4.1 rfl ?_
  refine V_iload dX12_readKinds_161 rfl ?_
  refine V_iload dX12_readKinds_163 rfl ?_
  refine V_iload_n dX12_readKinds_165 rfl ?_
  refine V_icmp_le (tgt := 173) dX12_readKinds_166 (by decide) (fun c => ?_) (fun c => ?_)
  · replace hF := (if_pos c).symm.trans hF
    refine V_iconst (v := 0) dX12_readKinds_173 (by decide) ?_
    obtain ⟨hz, hF⟩ := gv_out hF
    refine X_zast dX12_readKinds_174 hb4.2.2.2.2.2.2.2.2.2.2 hz ?_
    obtain ⟨S5, qS5, hF⟩ := bnd_g hF
    refine V_eqS qS5 ?_
    obtain ⟨x6, qx6, hF⟩ := bnd_g hF
    refine B_iinc (v := 1) qx6 dX12_readKinds_175 rfl (by decide) (by decide) ?_
    refine V_goto (tgt := 85) dX12_readKinds_178 (by decide) ?_
    exact V_lv' (hk85 _ _ _ _ _ _ hF) (v_all_c rfl (v_all_c rfl (v_all_c rfl (v_all_c rfl (v_all_c rfl (v_all_c rfl (v_all_c rfl v_all_n)))))))
  · replace hF := (if_neg c).symm.trans hF
    refine V_iconst (v := 1) dX12_readKinds_169 (by decide) ?_
    refine V_goto (tgt := 174) dX12_readKinds_170 (by decide) ?_
    obtain ⟨hz, hF⟩ := gv_out hF
    refine X_zast dX12_readKinds_174 hb4.2.2.2.2.2.2.2.2.2.2 hz ?_
    obtain ⟨S7, qS7, hF⟩ := bnd_g hF
    refine V_eqS qS7 ?_
    obtain ⟨x8, qx8, hF⟩ := bnd_g hF
    refine B_iinc (v := 1) qx8 dX12_readKinds_175 rfl (by decide) (by decide) ?_
    refine V_goto (tgt := 85) dX12_readKinds_178 (by decide) ?_
    exact V_lv' (hk85 _ _ _ _ _ _ hF) (v_all_c rfl (v_all_c rfl (v_all_c rfl (v_all_c rfl (v_all_c rfl (v_all_c rfl (v_all_c rfl v_all_n)))))))
set_option maxRecDepth 100000 in
set_option maxHeartbeats 4000000 in
theorem w_X12_readKinds_L85 {l : Launch} {s0 : State} {D : va_G} {a0 : Array Value} {sh : List Sh} {f : Nat} {t : Nat} {p1 : Int32} (ht : isX12 sh t) {r : (St) ⊕ (Nat × St)} {d : Nat} (G2 : GC2 l s0 D a0) (hd : 10 ≤ d + 1) : ∀ (n : Nat) (S : St) (l2 : Int32) (l3 : Int32) (l4 : Int32) (l5 : Int32) (l6 : Int32), F_X12_readKinds_L85 sh f t p1 n S l2 l3 l4 l5 l6 = some r → V l s0 D (d + 1) 0 0 mX12_readKinds (fun v h => ∃ y, r = .inl y ∧ v = none ∧ h = wd s0.heap.size sh y) (fun q E h => ∃ y : Nat × St, r = .inr y ∧ q = s0.heap.size + y.1 ∧ E = RX11 ∧ h = wd s0.heap.size sh y.2) 85 [(0, .ref (s0.heap.size + t)), (1, .int p1), (2, .int l2), (3, .int l3), (4, .int l4), (5, .int l5), (6, .int l6)] [] (wd s0.heap.size sh S) := by
  have G := G2.1
  intro n
  induction n with
  | zero => intro S l2 l3 l4 l5 l6 hF; cases hF
  | succ n ih =>
    intro S l2 l3 l4 l5 l6 hF
    unfold F_X12_readKinds_L85 at hF
    refine V_iload dX12_readKinds_85 rfl ?_
    refine V_iload_n dX12_readKinds_87 rfl ?_
    refine V_icmp_gt (tgt := 181) dX12_readKinds_88 (by decide) (fun c => ?_) (fun c => ?_)
    · replace hF := (if_pos c).symm.trans hF
      cases hF
      exact V_return dX12_readKinds_181 rfl ⟨_, rfl, rfl, rfl⟩
    · replace hF := (if_neg c).symm.trans hF
      refine V_aload_n dX12_readKinds_91 rfl ?_
      obtain ⟨b1, hrb1, hF⟩ := bd hF
      obtain ⟨hb1, hF⟩ := gv_in hF
      replace hb1 := ckX9_ok hb1
      refine X_gR G dX12_readKinds_92 fX12_19 ht.1 rfl hrb1 ?_
      refine X_gC G dX12_readKinds_95 fX12_250 hb1.1 rfl ?_
      refine V_iload dX12_readKinds_98 rfl ?_
      refine V_iload_n dX12_readKinds_100 rfl ?_
      obtain ⟨hz, hF⟩ := gv_out hF
      refine X_iast dX12_readKinds_101 hb1.2.2.2.2.2.1 hz ?_
      obtain ⟨S2, qS2, hF⟩ := bnd_g hF
      refine V_eqS qS2 ?_
      refine V_aload_n dX12_readKinds_102 rfl ?_
      obtain ⟨b3, hrb3, hF⟩ := bd hF
      obtain ⟨hb3, hF⟩ := gv_in hF
      replace hb3 := ckX9_ok hb3
      refine X_gR G dX12_readKinds_103 fX12_19 ht.1 rfl hrb3 ?_
      refine X_gC G dX12_readKinds_106 fX12_252 hb3.1 rfl ?_
      refine V_iload dX12_readKinds_109 rfl ?_
      refine V_iload dX12_readKinds_111 rfl ?_
      obtain ⟨hz, hF⟩ := gv_out hF
      refine X_iast dX12_readKinds_113 hb3.2.2.2.1 hz ?_
      obtain ⟨S4, qS4, hF⟩ := bnd_g hF
      refine V_eqS qS4 ?_
      refine V_aload_n dX12_readKinds_114 rfl ?_
      obtain ⟨b5, hrb5, hF⟩ := bd hF
      obtain ⟨hb5, hF⟩ := gv_in hF
      replace hb5 := ckX9_ok hb5
      refine X_gR G dX12_readKinds_115 fX12_19 ht.1 rfl hrb5 ?_
      refine X_gC G dX12_readKinds_118 fX12_255 hb5.1 rfl ?_
      refine V_iload dX12_readKinds_121 rfl ?_
      refine V_iload dX12_readKinds_123 rfl ?_
      refine V_iload_n dX12_readKinds_125 rfl ?_
      refine V_icmp_ne (tgt := 134) dX12_readKinds_126 (by decide) (fun c => ?_) (fun c => ?_)
      · replace hF := (if_neg c).symm.trans hF
        refine V_iload dX12_readKinds_134 rfl ?_
        refine V_ineg dX12_readKinds_136 ?_
        exact V_lv' (w_X12_readKinds_L137 ht G2 hd ih _ _ _ _ _ _ _ _ _ hb5.2.2.2.2.1 hF) (v_all_c rfl (v_all_c rfl (v_all_c rfl (v_all_c rfl (v_all_c rfl (v_all_c rfl (v_all_c rfl v_all_n)))))))
      · replace hF := (if_pos c).symm.trans hF
        refine V_iload dX12_readKinds_129 rfl ?_
        refine V_goto (tgt := 137) dX12_readKinds_131 (by decide) ?_
        exact V_lv' (w_X12_readKinds_L137 ht G2 hd ih _ _ _ _ _ _ _ _ _ hb5.2.2.2.2.1 hF) (v_all_c rfl (v_all_c rfl (v_all_c rfl (v_all_c rfl (v_all_c rfl (v_all_c rfl (v_all_c rfl v_all_n)))))))
set_option maxRecDepth 100000 in
set_option maxHeartbeats 4000000 in
theorem w_X12_readKinds_L21 {l : Launch} {s0 : State} {D : va_G} {a0 : Array Value} {sh : List Sh} {f : Nat} {t : Nat} {p1 : Int32} (ht : isX12 sh t) {r : (St) ⊕ (Nat × St)} {d : Nat} (G2 : GC2 l s0 D a0) (hd : 10 ≤ d + 1) : ∀ (S : St) (l2 : Int32) (v0 : Int32), F_X12_readKinds_L21 sh f t p1 S l2 v0 = some r → V l s0 D (d + 1) 0 0 mX12_readKinds (fun v h => ∃ y, r = .inl y ∧ v = none ∧ h = wd s0.heap.size sh y) (fun q E h => ∃ y : Nat × St, r = .inr y ∧ q = s0.heap.size + y.1 ∧ E = RX11 ∧ h = wd s0.heap.size sh y.2) 21 [(0, .ref (s0.heap.size + t)), (1, .int p1), (2, .int l2)] [.int v0] (wd s0.heap.size sh S) := by
  have G := G2.1
  intro S l2 v0 hF
  unfold F_X12_readKinds_L21 at hF
  refine V_istore_n dX12_readKinds_21 (by decide) ?_
  refine V_aload_n dX12_readKinds_22 rfl ?_
  refine X_gI G dX12_readKinds_23 fX12_186 ht.1 rfl ?_
  refine V_iconst (v := 3) dX12_readKinds_26 (by decide) ?_
  refine V_icmp_eq (tgt := 36) dX12_readKinds_27 (by decide) (fun c => ?_) (fun c => ?_)
  · replace hF := (if_pos c).symm.trans hF
    refine V_aload_n dX12_readKinds_36 rfl ?_
    refine X_gI G dX12_readKinds_37 fX12_202 ht.1 rfl ?_
    refine V_iconst (v := 1) dX12_readKinds_40 (by decide) ?_
    refine V_bipush (v := 99) dX12_readKinds_41 (by decide) ?_
    obtain ⟨y1, hc, hF⟩ := bd hF
    refine V_callS dX12_readKinds_43 kX12_242 (s_X12_in G hc (by omega)) rfl (Nat.le_of_ble_eq_true rfl) (fun _ _ _ q => q.elim) ?_
    rintro _ _ ⟨rfl, rfl⟩
    refine V_if_ne (tgt := 55) dX12_readKinds_46 (by decide) (fun c => ?_) (fun c => ?_)
    · replace hF := (if_neg c).symm.trans hF
      refine V_aload_n dX12_readKinds_55 rfl ?_
      refine X_gI G dX12_readKinds_56 fX12_202 ht.1 rfl ?_
      obtain ⟨x2, qx2, hF⟩ := bnd_g hF
      refine B_istore qx2 dX12_readKinds_59 (by decide) ?_
      refine V_aload_n dX12_readKinds_61 rfl ?_
      obtain ⟨y3, hc, hF⟩ := bd hF
      refine V_callV G dX12_readKinds_62 kX12_236 (wd_at ht.1) ⟨by decide, rfl⟩ (s_X12_next ht G hc (by omega)) rfl (Nat.le_of_ble_eq_true rfl) (fun _ _ _ q => q.elim) ?_
      rintro _ _ ⟨rfl, rfl⟩
      refine V_iload_n dX12_readKinds_65 rfl ?_
      refine V_if_ne (tgt := 73) dX12_readKinds_66 (by decide) (fun c => ?_) (fun c => ?_)
      · replace hF := (if_neg c).symm.trans hF
        refine V_aload_n dX12_readKinds_73 rfl ?_
        refine V_bipush (v := 9) dX12_readKinds_74 (by decide) ?_
        refine V_iconst (v := 0) dX12_readKinds_76 (by decide) ?_
        obtain ⟨y4, hc, hF⟩ := bd hF
        refine V_callV G dX12_readKinds_77 kX12_246 (wd_at ht.1) ⟨by decide, rfl⟩ (s_X12_readInt ht G hc (by omega)) rfl (Nat.le_of_ble_eq_true rfl) (by rintro _ _ _ ⟨y9, rfl, rfl, rfl, rfl⟩; cases hF; exact ⟨⟨_, rfl, rfl, rfl, rfl⟩, fun x hx => nomatch hx⟩) ?_
        rintro _ _ ⟨y4, rfl, rfl, rfl⟩
        replace hF := thr_l hF
        obtain ⟨x5, qx5, hF⟩ := bnd_g hF
        refine B_istore qx5 dX12_readKinds_80 (by decide) ?_
        refine V_iload_n dX12_readKinds_82 rfl ?_
        refine V_istore dX12_readKinds_83 (by decide) ?_
        exact V_lv' (w_X12_readKinds_L85 ht G2 hd f _ _ _ _ _ _ hF) (v_all_c rfl (v_all_c rfl (v_all_c rfl (v_all_c rfl (v_all_c rfl (v_all_c rfl (v_all_c rfl v_all_n)))))))
      · replace hF := (if_pos c).symm.trans hF
        refine V_iconst (v := 0) dX12_readKinds_69 (by decide) ?_
        refine V_goto (tgt := 80) dX12_readKinds_70 (by decide) ?_
        refine V_istore dX12_readKinds_80 (by decide) ?_
        refine V_iload_n dX12_readKinds_82 rfl ?_
        refine V_istore dX12_readKinds_83 (by decide) ?_
        exact V_lv' (w_X12_readKinds_L85 ht G2 hd f _ _ _ _ _ _ hF) (v_all_c rfl (v_all_c rfl (v_all_c rfl (v_all_c rfl (v_all_c rfl (v_all_c rfl (v_all_c rfl v_all_n)))))))
    · replace hF := (if_pos c).symm.trans hF
      refine V_aload_n dX12_readKinds_49 rfl ?_
      refine V_iconst (v := 4) dX12_readKinds_50 (by decide) ?_
      obtain ⟨y6, hc, hF⟩ := bd hF
      refine V_callV G dX12_readKinds_51 kX12_230 (wd_at ht.1) ⟨by decide, rfl⟩ (s_X12_stop ht G hc (by omega)) rfl (Nat.le_of_ble_eq_true rfl) (fun _ _ _ q => q.elim) ?_
      rintro _ _ ⟨rfl, rfl⟩
      obtain ⟨hy6, hF⟩ := gv_out hF
      replace hy6 := ckX11_ok (Decidable.not_not.mp hy6)
      cases hF
      exact V_athrow G dX12_readKinds_54 (wd_at hy6) (by decide) rfl (fun x hx => nomatch hx) ⟨_, rfl, rfl, rfl, rfl⟩
  · replace hF := (if_neg c).symm.trans hF
    refine V_aload_n dX12_readKinds_30 rfl ?_
    refine V_iconst (v := 1) dX12_readKinds_31 (by decide) ?_
    obtain ⟨y7, hc, hF⟩ := bd hF
    refine V_callV G dX12_readKinds_32 kX12_230 (wd_at ht.1) ⟨by decide, rfl⟩ (s_X12_stop ht G hc (by omega)) rfl (Nat.le_of_ble_eq_true rfl) (fun _ _ _ q => q.elim) ?_
    rintro _ _ ⟨rfl, rfl⟩
    obtain ⟨hy7, hF⟩ := gv_out hF
    replace hy7 := ckX11_ok (Decidable.not_not.mp hy7)
    cases hF
    exact V_athrow G dX12_readKinds_35 (wd_at hy7) (by decide) rfl (fun x hx => nomatch hx) ⟨_, rfl, rfl, rfl, rfl⟩
set_option maxRecDepth 100000 in
set_option maxHeartbeats 4000000 in
theorem s_X12_readKinds {l : Launch} {s0 : State} {D : va_G} {a0 : Array Value} {sh : List Sh} {f : Nat} {S : St} {t : Nat} {p1 : Int32} (ht : isX12 sh t) {r : (St) ⊕ (Nat × St)} (G2 : GC2 l s0 D a0) (hF : F_X12_readKinds sh f S t p1 = some r) {d : Nat} (hd : 10 ≤ d) : Sp l s0 D d 0 0 mX12_readKinds (fun v h => ∃ y, r = .inl y ∧ v = none ∧ h = wd s0.heap.size sh y) (fun q E h => ∃ y : Nat × St, r = .inr y ∧ q = s0.heap.size + y.1 ∧ E = RX11 ∧ h = wd s0.heap.size sh y.2) [.ref (s0.heap.size + t), .int p1] (wd s0.heap.size sh S) := by
  have G := G2.1
  obtain ⟨d, rfl⟩ : ∃ e, d = e + 1 := ⟨d - 1, by omega⟩
  refine Sp.of (by decide +kernel) rfl (Nat.le_of_ble_eq_true rfl) ?_
  unfold F_X12_readKinds at hF
  refine V_aload_n dX12_readKinds_0 rfl ?_
  obtain ⟨y1, hc, hF⟩ := bd hF
  refine V_callV G dX12_readKinds_1 kX12_236 (wd_at ht.1) ⟨by decide, rfl⟩ (s_X12_next ht G hc (by omega)) rfl (Nat.le_of_ble_eq_true rfl) (fun _ _ _ q => q.elim) ?_
  rintro _ _ ⟨rfl, rfl⟩
  refine V_aload_n dX12_readKinds_4 rfl ?_
  obtain ⟨y2, hc, hF⟩ := bd hF
  refine V_callV G dX12_readKinds_5 kX12_239 (wd_at ht.1) ⟨by decide, rfl⟩ (s_X12_readNew ht G2 hc (by omega)) rfl (Nat.le_of_ble_eq_true rfl) (by rintro _ _ _ ⟨y9, rfl, rfl, rfl, rfl⟩; cases hF; exact ⟨⟨_, rfl, rfl, rfl, rfl⟩, fun x hx => nomatch hx⟩) ?_
  rintro _ _ ⟨y2, rfl, rfl, rfl⟩
  replace hF := thr_l hF
  obtain ⟨x3, qx3, hF⟩ := bnd_g hF
  refine B_istore_n qx3 dX12_readKinds_8 (by decide) ?_
  refine V_iload_n dX12_readKinds_9 rfl ?_
  refine V_if_ne (tgt := 17) dX12_readKinds_10 (by decide) (fun c => ?_) (fun c => ?_)
  · replace hF := (if_neg c).symm.trans hF
    refine V_aload_n dX12_readKinds_17 rfl ?_
    obtain ⟨y4, hc, hF⟩ := bd hF
    refine V_callV G dX12_readKinds_18 kX12_239 (wd_at ht.1) ⟨by decide, rfl⟩ (s_X12_readNew ht G2 hc (by omega)) rfl (Nat.le_of_ble_eq_true rfl) (by rintro _ _ _ ⟨y9, rfl, rfl, rfl, rfl⟩; cases hF; exact ⟨⟨_, rfl, rfl, rfl, rfl⟩, fun x hx => nomatch hx⟩) ?_
    rintro _ _ ⟨y4, rfl, rfl, rfl⟩
    replace hF := thr_l hF
    exact V_lv' (w_X12_readKinds_L21 ht G2 hd _ _ _ hF) (v_all_c rfl (v_all_c rfl (v_all_c rfl v_all_n)))
  · replace hF := (if_pos c).symm.trans hF
    refine V_iload_n dX12_readKinds_13 rfl ?_
    refine V_goto (tgt := 21) dX12_readKinds_14 (by decide) ?_
    exact V_lv' (w_X12_readKinds_L21 ht G2 hd _ _ _ hF) (v_all_c rfl (v_all_c rfl (v_all_c rfl v_all_n)))
set_option maxRecDepth 100000 in
set_option maxHeartbeats 4000000 in
theorem w_X12_readMeet_L49 {l : Launch} {s0 : State} {D : va_G} {a0 : Array Value} {sh : List Sh} {f : Nat} {t : Nat} (ht : isX12 sh t) {r : (St) ⊕ (Nat × St)} {d : Nat} (G2 : GC2 l s0 D a0) (hd : 9 ≤ d + 1) {k37 : St → Int32 → Int32 → Int32 → Option ((St) ⊕ (Nat × St))} (hk37 : ∀ (S : St) (l1 : Int32) (l2 : Int32) (l3 : Int32), k37 S l1 l2 l3 = some r → V l s0 D (d + 1) 0 0 mX12_readMeet (fun v h => ∃ y, r = .inl y ∧ v = none ∧ h = wd s0.heap.size sh y) (fun q E h => ∃ y : Nat × St, r = .inr y ∧ q = s0.heap.size + y.1 ∧ E = RX11 ∧ h = wd s0.heap.size sh y.2) 37 [(0, .ref (s0.heap.size + t)), (1, .int l1), (2, .int l2), (3, .int l3)] [] (wd s0.heap.size sh S)) : ∀ (S : St) (l1 : Int32) (l2 : Int32) (l3 : Int32), F_X12_readMeet_L49 sh f t k37 S l1 l2 l3 = some r → V l s0 D (d + 1) 0 0 mX12_readMeet (fun v h => ∃ y, r = .inl y ∧ v = none ∧ h = wd s0.heap.size sh y) (fun q E h => ∃ y : Nat × St, r = .inr y ∧ q = s0.heap.size + y.1 ∧ E = RX11 ∧ h = wd s0.heap.size sh y.2) 49 [(0, .ref (s0.heap.size + t)), (1, .int l1), (2, .int l2), (3, .int l3)] [] (wd s0.heap.size sh S) := by
  have G := G2.1
  intro S l1 l2 l3 hF
  unfold F_X12_readMeet_L49 at hF
  refine V_aload_n dX12_readMeet_49 rfl ?_
  obtain ⟨y1, hc, hF⟩ := bd hF
  refine V_callV G dX12_readMeet_50 kX12_264 (wd_at ht.1) ⟨by decide, rfl⟩ (s_X12_isName ht G2 hc (by omega)) rfl (Nat.le_of_ble_eq_true rfl) (fun _ _ _ q => q.elim) ?_
  rintro _ _ ⟨rfl, rfl⟩
  refine V_if_ne (tgt := 62) dX12_readMeet_53 (by decide) (fun c => ?_) (fun c => ?_)
  · replace hF := (if_neg c).symm.trans hF
    refine V_aload_n dX12_readMeet_62 rfl ?_
    obtain ⟨b2, hrb2, hF⟩ := bd hF
    obtain ⟨hb2, hF⟩ := gv_in hF
    replace hb2 := ckX9_ok hb2
    refine X_gR G dX12_readMeet_63 fX12_19 ht.1 rfl hrb2 ?_
    refine V_aload_n dX12_readMeet_66 rfl ?_
    refine X_gJ G dX12_readMeet_67 fX12_196 ht.1 rfl ?_
    obtain ⟨y3, hc, hF⟩ := bd hF
    refine V_callV G dX12_readMeet_70 kX12_268 (wd_at hb2.1) ⟨by decide, rfl⟩ (s_X9_kindOf hb2 G hc (by omega)) rfl (Nat.le_of_ble_eq_true rfl) (fun _ _ _ q => q.elim) ?_
    rintro _ _ ⟨rfl, rfl⟩
    refine V_istore dX12_readMeet_73 (by decide) ?_
    refine V_iload dX12_readMeet_75 rfl ?_
    refine V_iconst (v := -1) dX12_readMeet_77 (by decide) ?_
    refine V_icmp_ne (tgt := 87) dX12_readMeet_78 (by decide) (fun c => ?_) (fun c => ?_)
    · replace hF := (if_neg c).symm.trans hF
      refine V_iload_n dX12_readMeet_87 rfl ?_
      refine V_iconst (v := 4) dX12_readMeet_88 (by decide) ?_
      refine V_icmp_ne (tgt := 99) dX12_readMeet_89 (by decide) (fun c => ?_) (fun c => ?_)
      · replace hF := (if_neg c).symm.trans hF
        refine V_aload_n dX12_readMeet_99 rfl ?_
        obtain ⟨b4, hrb4, hF⟩ := bd hF
        obtain ⟨hb4, hF⟩ := gv_in hF
        replace hb4 := ckX9_ok hb4
        refine X_gR G dX12_readMeet_100 fX12_19 ht.1 rfl hrb4 ?_
        refine X_gC G dX12_readMeet_103 fX12_281 hb4.1 rfl ?_
        refine V_iconst (v := 4) dX12_readMeet_106 (by decide) ?_
        refine V_iload_n dX12_readMeet_107 rfl ?_
        refine V_imul dX12_readMeet_108 ?_
        refine V_iload_n dX12_readMeet_109 rfl ?_
        refine V_iadd dX12_readMeet_110 ?_
        refine V_iload dX12_readMeet_111 rfl ?_
        obtain ⟨hz, hF⟩ := gv_out hF
        refine X_iast dX12_readMeet_113 hb4.2.2.2.2.2.2.2.1 hz ?_
        obtain ⟨S5, qS5, hF⟩ := bnd_g hF
        refine V_eqS qS5 ?_
        obtain ⟨x6, qx6, hF⟩ := bnd_g hF
        refine B_iinc (v := 1) qx6 dX12_readMeet_114 rfl (by decide) (by decide) ?_
        refine V_aload_n dX12_readMeet_117 rfl ?_
        obtain ⟨y7, hc, hF⟩ := bd hF
        refine V_callV G dX12_readMeet_118 kX12_236 (wd_at ht.1) ⟨by decide, rfl⟩ (s_X12_next ht G hc (by omega)) rfl (Nat.le_of_ble_eq_true rfl) (fun _ _ _ q => q.elim) ?_
        rintro _ _ ⟨rfl, rfl⟩
        refine V_goto (tgt := 37) dX12_readMeet_121 (by decide) ?_
        exact V_lv' (hk37 _ _ _ _ hF) (v_all_c rfl (v_all_c rfl (v_all_c rfl (v_all_c rfl v_all_n))))
      · replace hF := (if_pos c).symm.trans hF
        refine V_aload_n dX12_readMeet_92 rfl ?_
        refine V_bipush (v := 6) dX12_readMeet_93 (by decide) ?_
        obtain ⟨y8, hc, hF⟩ := bd hF
        refine V_callV G dX12_readMeet_95 kX12_230 (wd_at ht.1) ⟨by decide, rfl⟩ (s_X12_stop ht G hc (by omega)) rfl (Nat.le_of_ble_eq_true rfl) (fun _ _ _ q => q.elim) ?_
        rintro _ _ ⟨rfl, rfl⟩
        obtain ⟨hy8, hF⟩ := gv_out hF
        replace hy8 := ckX11_ok (Decidable.not_not.mp hy8)
        cases hF
        exact V_athrow G dX12_readMeet_98 (wd_at hy8) (by decide) rfl (fun x hx => nomatch hx) ⟨_, rfl, rfl, rfl, rfl⟩
    · replace hF := (if_pos c).symm.trans hF
      refine V_aload_n dX12_readMeet_81 rfl ?_
      refine V_iconst (v := 2) dX12_readMeet_82 (by decide) ?_
      obtain ⟨y9, hc, hF⟩ := bd hF
      refine V_callV G dX12_readMeet_83 kX12_230 (wd_at ht.1) ⟨by decide, rfl⟩ (s_X12_stop ht G hc (by omega)) rfl (Nat.le_of_ble_eq_true rfl) (fun _ _ _ q => q.elim) ?_
      rintro _ _ ⟨rfl, rfl⟩
      obtain ⟨hy9, hF⟩ := gv_out hF
      replace hy9 := ckX11_ok (Decidable.not_not.mp hy9)
      cases hF
      exact V_athrow G dX12_readMeet_86 (wd_at hy9) (by decide) rfl (fun x hx => nomatch hx) ⟨_, rfl, rfl, rfl, rfl⟩
  · replace hF := (if_pos c).symm.trans hF
    refine V_aload_n dX12_readMeet_56 rfl ?_
    refine V_iconst (v := 1) dX12_readMeet_57 (by decide) ?_
    obtain ⟨y10, hc, hF⟩ := bd hF
    refine V_callV G dX12_readMeet_58 kX12_230 (wd_at ht.1) ⟨by decide, rfl⟩ (s_X12_stop ht G hc (by omega)) rfl (Nat.le_of_ble_eq_true rfl) (fun _ _ _ q => q.elim) ?_
    rintro _ _ ⟨rfl, rfl⟩
    obtain ⟨hy10, hF⟩ := gv_out hF
    replace hy10 := ckX11_ok (Decidable.not_not.mp hy10)
    cases hF
    exact V_athrow G dX12_readMeet_61 (wd_at hy10) (by decide) rfl (fun x hx => nomatch hx) ⟨_, rfl, rfl, rfl, rfl⟩
set_option maxRecDepth 100000 in
set_option maxHeartbeats 4000000 in
theorem w_X12_readMeet_L234 {l : Launch} {s0 : State} {D : va_G} {a0 : Array Value} {sh : List Sh} {f : Nat} {t : Nat} (ht : isX12 sh t) {r : (St) ⊕ (Nat × St)} {d : Nat} (G2 : GC2 l s0 D a0) (hd : 9 ≤ d + 1) : ∀ (S : St) (l1 : Int32) (l2 : Int32) (v0 : Nat) (v1 : Int32) (v2 : Int32),sh[v0]? = some (.inl (.int, 4)) → F_X12_readMeet_L234 sh f t S l1 l2 v0 v1 v2 = some r → V l s0 D (d + 1) 0 0 mX12_readMeet (fun v h => ∃ y, r = .inl y ∧ v = none ∧ h = wd s0.heap.size sh y) (fun q E h => ∃ y : Nat × St, r = .inr y ∧ q = s0.heap.size + y.1 ∧ E = RX11 ∧ h = wd s0.heap.size sh y.2) 234 [(0, .ref (s0.heap.size + t)), (1, .int l1), (2, .int l2)] [.int v2, .int v1, .ref (s0.heap.size + v0)] (wd s0.heap.size sh S) := by
  have G := G2.1
  intro S l1 l2 v0 v1 v2 hv0 hF
  unfold F_X12_readMeet_L234 at hF
  obtain ⟨hz, hF⟩ := gv_out hF
  refine X_iast dX12_readMeet_234 hv0 hz ?_
  obtain ⟨S1, qS1, hF⟩ := bnd_g hF
  refine V_eqS qS1 ?_
  refine V_aload_n dX12_readMeet_235 rfl ?_
  obtain ⟨b2, hrb2, hF⟩ := bd hF
  obtain ⟨hb2, hF⟩ := gv_in hF
  replace hb2 := ckX9_ok hb2
  refine X_gR G dX12_readMeet_236 fX12_19 ht.1 rfl hrb2 ?_
  refine X_gC G dX12_readMeet_239 fX12_290 hb2.1 rfl ?_
  refine V_iload_n dX12_readMeet_242 rfl ?_
  obtain ⟨hz, hF⟩ := gv_out hF
  refine X_iald dX12_readMeet_243 hb2.2.2.2.2.2.2.2.2.2.1 hz ?_
  refine V_iconst (v := -1) dX12_readMeet_244 (by decide) ?_
  refine V_icmp_ne (tgt := 254) dX12_readMeet_245 (by decide) (fun c => ?_) (fun c => ?_)
  · replace hF := (if_neg c).symm.trans hF
    refine V_aload_n dX12_readMeet_254 rfl ?_
    refine V_iload_n dX12_readMeet_255 rfl ?_
    obtain ⟨y3, hc, hF⟩ := bd hF
    refine V_callV G dX12_readMeet_256 kX12_297 (wd_at ht.1) ⟨by decide, rfl⟩ (s_X12_isEven ht G hc (by omega)) rfl (Nat.le_of_ble_eq_true rfl) (fun _ _ _ q => q.elim) ?_
    rintro _ _ ⟨rfl, rfl⟩
    refine V_if_ne (tgt := 269) dX12_readMeet_259 (by decide) (fun c => ?_) (fun c => ?_)
    · replace hF := (if_neg c).symm.trans hF
      refine V_aload_n dX12_readMeet_269 rfl ?_
      obtain ⟨b4, hrb4, hF⟩ := bd hF
      obtain ⟨hb4, hF⟩ := gv_in hF
      replace hb4 := ckX9_ok hb4
      refine X_gR G dX12_readMeet_270 fX12_19 ht.1 rfl hrb4 ?_
      refine V_dup dX12_readMeet_273 rfl ?_
      refine X_gI G dX12_readMeet_274 fX12_278 hb4.1 rfl ?_
      refine V_iconst (v := 1) dX12_readMeet_277 (by decide) ?_
      refine V_iadd dX12_readMeet_278 ?_
      refine X_pI G dX12_readMeet_279 gX12_278 hb4.1 rfl rfl rfl ?_
      obtain ⟨S5, qS5, hF⟩ := bnd_g hF
      refine V_eqS qS5 ?_
      refine V_aload_n dX12_readMeet_282 rfl ?_
      obtain ⟨y6, hc, hF⟩ := bd hF
      refine V_callV G dX12_readMeet_283 kX12_236 (wd_at ht.1) ⟨by decide, rfl⟩ (s_X12_next ht G hc (by omega)) rfl (Nat.le_of_ble_eq_true rfl) (fun _ _ _ q => q.elim) ?_
      rintro _ _ ⟨rfl, rfl⟩
      cases hF
      exact V_return dX12_readMeet_286 rfl ⟨_, rfl, rfl, rfl⟩
    · replace hF := (if_pos c).symm.trans hF
      refine V_aload_n dX12_readMeet_262 rfl ?_
      refine V_iconst (v := 5) dX12_readMeet_263 (by decide) ?_
      refine V_iload_n dX12_readMeet_264 rfl ?_
      obtain ⟨y7, hc, hF⟩ := bd hF
      refine V_callV G dX12_readMeet_265 kX12_160 (wd_at ht.1) ⟨by decide, rfl⟩ (s_X12_stopAt ht G hc (by omega)) rfl (Nat.le_of_ble_eq_true rfl) (fun _ _ _ q => q.elim) ?_
      rintro _ _ ⟨rfl, rfl⟩
      obtain ⟨hy7, hF⟩ := gv_out hF
      replace hy7 := ckX11_ok (Decidable.not_not.mp hy7)
      cases hF
      exact V_athrow G dX12_readMeet_268 (wd_at hy7) (by decide) rfl (fun x hx => nomatch hx) ⟨_, rfl, rfl, rfl, rfl⟩
  · replace hF := (if_pos c).symm.trans hF
    refine V_aload_n dX12_readMeet_248 rfl ?_
    refine V_iconst (v := 4) dX12_readMeet_249 (by decide) ?_
    obtain ⟨y8, hc, hF⟩ := bd hF
    refine V_callV G dX12_readMeet_250 kX12_230 (wd_at ht.1) ⟨by decide, rfl⟩ (s_X12_stop ht G hc (by omega)) rfl (Nat.le_of_ble_eq_true rfl) (fun _ _ _ q => q.elim) ?_
    rintro _ _ ⟨rfl, rfl⟩
    obtain ⟨hy8, hF⟩ := gv_out hF
    replace hy8 := ckX11_ok (Decidable.not_not.mp hy8)
    cases hF
    exact V_athrow G dX12_readMeet_253 (wd_at hy8) (by decide) rfl (fun x hx => nomatch hx) ⟨_, rfl, rfl, rfl, rfl⟩
set_option maxRecDepth 100000 in
set_option maxHeartbeats 4000000 in
theorem w_X12_readMeet_L37 {l : Launch} {s0 : State} {D : va_G} {a0 : Array Value} {sh : List Sh} {f : Nat} {t : Nat} (ht : isX12 sh t) {r : (St) ⊕ (Nat × St)} {d : Nat} (G2 : GC2 l s0 D a0) (hd : 9 ≤ d + 1) : ∀ (n : Nat) (S : St) (l1 : Int32) (l2 : Int32) (l3 : Int32), F_X12_readMeet_L37 sh f t n S l1 l2 l3 = some r → V l s0 D (d + 1) 0 0 mX12_readMeet (fun v h => ∃ y, r = .inl y ∧ v = none ∧ h = wd s0.heap.size sh y) (fun q E h => ∃ y : Nat × St, r = .inr y ∧ q = s0.heap.size + y.1 ∧ E = RX11 ∧ h = wd s0.heap.size sh y.2) 37 [(0, .ref (s0.heap.size + t)), (1, .int l1), (2, .int l2), (3, .int l3)] [] (wd s0.heap.size sh S) := by
  have G := G2.1
  intro n
  induction n with
  | zero => intro S l1 l2 l3 hF; cases hF
  | succ n ih =>
    intro S l1 l2 l3 hF
    unfold F_X12_readMeet_L37 at hF
    refine V_iload_n dX12_readMeet_37 rfl ?_
    refine V_iconst (v := 3) dX12_readMeet_38 (by decide) ?_
    refine V_icmp_lt (tgt := 49) dX12_readMeet_39 (by decide) (fun c => ?_) (fun c => ?_)
    · replace hF := (if_pos c).symm.trans hF
      exact V_lv' (w_X12_readMeet_L49 ht G2 hd ih _ _ _ _ hF) (v_all_c rfl (v_all_c rfl (v_all_c rfl (v_all_c rfl v_all_n))))
    · replace hF := (if_neg c).symm.trans hF
      refine V_aload_n dX12_readMeet_42 rfl ?_
      obtain ⟨y1, hc, hF⟩ := bd hF
      refine V_callV G dX12_readMeet_43 kX12_264 (wd_at ht.1) ⟨by decide, rfl⟩ (s_X12_isName ht G2 hc (by omega)) rfl (Nat.le_of_ble_eq_true rfl) (fun _ _ _ q => q.elim) ?_
      rintro _ _ ⟨rfl, rfl⟩
      refine V_if_eq (tgt := 124) dX12_readMeet_46 (by decide) (fun c => ?_) (fun c => ?_)
      · replace hF := (if_pos c).symm.trans hF
        refine V_aload_n dX12_readMeet_124 rfl ?_
        refine V_ldcs (i := 4) G2 dX12_readMeet_125 (by decide) rfl rfl (fun a2 ha2 => ?_)
        obtain ⟨y3, hc, hF⟩ := bd hF
        refine V_callV G dX12_readMeet_127 kX12_211 (wd_at ht.1) ⟨by decide, rfl⟩ (s_X12_isWord ht ha2 G2 hc (by omega)) rfl (Nat.le_of_ble_eq_true rfl) (fun _ _ _ q => q.elim) ?_
        rintro _ _ ⟨rfl, rfl⟩
        refine V_if_ne (tgt := 139) dX12_readMeet_130 (by decide) (fun c => ?_) (fun c => ?_)
        · replace hF := (if_neg c).symm.trans hF
          refine V_aload_n dX12_readMeet_139 rfl ?_
          obtain ⟨y4, hc, hF⟩ := bd hF
          refine V_callV G dX12_readMeet_140 kX12_236 (wd_at ht.1) ⟨by decide, rfl⟩ (s_X12_next ht G hc (by omega)) rfl (Nat.le_of_ble_eq_true rfl) (fun _ _ _ q => q.elim) ?_
          rintro _ _ ⟨rfl, rfl⟩
          refine V_aload_n dX12_readMeet_143 rfl ?_
          obtain ⟨b5, hrb5, hF⟩ := bd hF
          obtain ⟨hb5, hF⟩ := gv_in hF
          replace hb5 := ckX9_ok hb5
          refine X_gR G dX12_readMeet_144 fX12_19 ht.1 rfl hrb5 ?_
          refine X_gC G dX12_readMeet_147 fX12_284 hb5.1 rfl ?_
          refine V_iload_n dX12_readMeet_150 rfl ?_
          refine V_iload_n dX12_readMeet_151 rfl ?_
          obtain ⟨hz, hF⟩ := gv_out hF
          refine X_iast dX12_readMeet_152 hb5.2.2.2.2.2.2.1 hz ?_
          obtain ⟨S6, qS6, hF⟩ := bnd_g hF
          refine V_eqS qS6 ?_
          refine V_aload_n dX12_readMeet_153 rfl ?_
          obtain ⟨b7, hrb7, hF⟩ := bd hF
          obtain ⟨hb7, hF⟩ := gv_in hF
          replace hb7 := ckX9_ok hb7
          refine X_gR G dX12_readMeet_154 fX12_19 ht.1 rfl hrb7 ?_
          refine X_gC G dX12_readMeet_157 fX12_287 hb7.1 rfl ?_
          refine V_iload_n dX12_readMeet_160 rfl ?_
          refine V_aload_n dX12_readMeet_161 rfl ?_
          refine V_bipush (v := 99) dX12_readMeet_162 (by decide) ?_
          refine V_iconst (v := 1) dX12_readMeet_164 (by decide) ?_
          obtain ⟨y8, hc, hF⟩ := bd hF
          refine V_callV G dX12_readMeet_165 kX12_246 (wd_at ht.1) ⟨by decide, rfl⟩ (s_X12_readInt ht G hc (by omega)) rfl (Nat.le_of_ble_eq_true rfl) (by rintro _ _ _ ⟨y9, rfl, rfl, rfl, rfl⟩; cases hF; exact ⟨⟨_, rfl, rfl, rfl, rfl⟩, fun x hx => nomatch hx⟩) ?_
          rintro _ _ ⟨y8, rfl, rfl, rfl⟩
          replace hF := thr_l hF
          obtain ⟨hz, hF⟩ := gv_out hF
          refine X_iast dX12_readMeet_168 hb7.2.2.2.2.2.2.2.2.1 hz ?_
          obtain ⟨S9, qS9, hF⟩ := bnd_g hF
          refine V_eqS qS9 ?_
          refine V_aload_n dX12_readMeet_169 rfl ?_
          refine X_gI G dX12_readMeet_170 fX12_186 ht.1 rfl ?_
          refine V_iconst (v := 2) dX12_readMeet_173 (by decide) ?_
          refine V_icmp_eq (tgt := 183) dX12_readMeet_174 (by decide) (fun c => ?_) (fun c => ?_)
          · replace hF := (if_pos c).symm.trans hF
            refine V_aload_n dX12_readMeet_183 rfl ?_
            obtain ⟨b10, hrb10, hF⟩ := bd hF
            obtain ⟨hb10, hF⟩ := gv_in hF
            replace hb10 := ckX9_ok hb10
            refine X_gR G dX12_readMeet_184 fX12_19 ht.1 rfl hrb10 ?_
            refine X_gC G dX12_readMeet_187 fX12_290 hb10.1 rfl ?_
            refine V_iload_n dX12_readMeet_190 rfl ?_
            refine V_aload_n dX12_readMeet_191 rfl ?_
            refine V_ldcsw (i := 5) G2 dX12_readMeet_192 (by decide) rfl rfl (fun a11 ha11 => ?_)
            obtain ⟨y12, hc, hF⟩ := bd hF
            refine V_callV G dX12_readMeet_195 kX12_211 (wd_at ht.1) ⟨by decide, rfl⟩ (s_X12_isWord ht ha11 G2 hc (by omega)) rfl (Nat.le_of_ble_eq_true rfl) (fun _ _ _ q => q.elim) ?_
            rintro _ _ ⟨rfl, rfl⟩
            refine V_if_eq (tgt := 205) dX12_readMeet_198 (by decide) (fun c => ?_) (fun c => ?_)
            · replace hF := (if_pos c).symm.trans hF
              refine V_aload_n dX12_readMeet_205 rfl ?_
              refine V_ldcsw (i := 6) G2 dX12_readMeet_206 (by decide) rfl rfl (fun a13 ha13 => ?_)
              obtain ⟨y14, hc, hF⟩ := bd hF
              refine V_callV G dX12_readMeet_209 kX12_211 (wd_at ht.1) ⟨by decide, rfl⟩ (s_X12_isWord ht ha13 G2 hc (by omega)) rfl (Nat.le_of_ble_eq_true rfl) (fun _ _ _ q => q.elim) ?_
              rintro _ _ ⟨rfl, rfl⟩
              refine V_if_eq (tgt := 219) dX12_readMeet_212 (by decide) (fun c => ?_) (fun c => ?_)
              · replace hF := (if_pos c).symm.trans hF
                refine V_aload_n dX12_readMeet_219 rfl ?_
                refine V_ldcsw (i := 7) G2 dX12_readMeet_220 (by decide) rfl rfl (fun a15 ha15 => ?_)
                obtain ⟨y16, hc, hF⟩ := bd hF
                refine V_callV G dX12_readMeet_223 kX12_211 (wd_at ht.1) ⟨by decide, rfl⟩ (s_X12_isWord ht ha15 G2 hc (by omega)) rfl (Nat.le_of_ble_eq_true rfl) (fun _ _ _ q => q.elim) ?_
                rintro _ _ ⟨rfl, rfl⟩
                refine V_if_eq (tgt := 233) dX12_readMeet_226 (by decide) (fun c => ?_) (fun c => ?_)
                · replace hF := (if_pos c).symm.trans hF
                  refine V_iconst (v := -1) dX12_readMeet_233 (by decide) ?_
                  exact V_lv' (w_X12_readMeet_L234 ht G2 hd _ _ _ _ _ _ hb10.2.2.2.2.2.2.2.2.2.1 hF) (v_all_c rfl (v_all_c rfl (v_all_c rfl v_all_n)))
                · replace hF := (if_neg c).symm.trans hF
                  refine V_iconst (v := 2) dX12_readMeet_229 (by decide) ?_
                  refine V_goto (tgt := 234) dX12_readMeet_230 (by decide) ?_
                  exact V_lv' (w_X12_readMeet_L234 ht G2 hd _ _ _ _ _ _ hb10.2.2.2.2.2.2.2.2.2.1 hF) (v_all_c rfl (v_all_c rfl (v_all_c rfl v_all_n)))
              · replace hF := (if_neg c).symm.trans hF
                refine V_iconst (v := 1) dX12_readMeet_215 (by decide) ?_
                refine V_goto (tgt := 234) dX12_readMeet_216 (by decide) ?_
                exact V_lv' (w_X12_readMeet_L234 ht G2 hd _ _ _ _ _ _ hb10.2.2.2.2.2.2.2.2.2.1 hF) (v_all_c rfl (v_all_c rfl (v_all_c rfl v_all_n)))
            · replace hF := (if_neg c).symm.trans hF
              refine V_iconst (v := 0) dX12_readMeet_201 (by decide) ?_
              refine V_goto (tgt := 234) dX12_readMeet_202 (by decide) ?_
              exact V_lv' (w_X12_readMeet_L234 ht G2 hd _ _ _ _ _ _ hb10.2.2.2.2.2.2.2.2.2.1 hF) (v_all_c rfl (v_all_c rfl (v_all_c rfl v_all_n)))
          · replace hF := (if_neg c).symm.trans hF
            refine V_aload_n dX12_readMeet_177 rfl ?_
            refine V_iconst (v := 1) dX12_readMeet_178 (by decide) ?_
            obtain ⟨y17, hc, hF⟩ := bd hF
            refine V_callV G dX12_readMeet_179 kX12_230 (wd_at ht.1) ⟨by decide, rfl⟩ (s_X12_stop ht G hc (by omega)) rfl (Nat.le_of_ble_eq_true rfl) (fun _ _ _ q => q.elim) ?_
            rintro _ _ ⟨rfl, rfl⟩
            obtain ⟨hy17, hF⟩ := gv_out hF
            replace hy17 := ckX11_ok (Decidable.not_not.mp hy17)
            cases hF
            exact V_athrow G dX12_readMeet_182 (wd_at hy17) (by decide) rfl (fun x hx => nomatch hx) ⟨_, rfl, rfl, rfl, rfl⟩
        · replace hF := (if_pos c).symm.trans hF
          refine V_aload_n dX12_readMeet_133 rfl ?_
          refine V_iconst (v := 1) dX12_readMeet_134 (by decide) ?_
          obtain ⟨y18, hc, hF⟩ := bd hF
          refine V_callV G dX12_readMeet_135 kX12_230 (wd_at ht.1) ⟨by decide, rfl⟩ (s_X12_stop ht G hc (by omega)) rfl (Nat.le_of_ble_eq_true rfl) (fun _ _ _ q => q.elim) ?_
          rintro _ _ ⟨rfl, rfl⟩
          obtain ⟨hy18, hF⟩ := gv_out hF
          replace hy18 := ckX11_ok (Decidable.not_not.mp hy18)
          cases hF
          exact V_athrow G dX12_readMeet_138 (wd_at hy18) (by decide) rfl (fun x hx => nomatch hx) ⟨_, rfl, rfl, rfl, rfl⟩
      · replace hF := (if_neg c).symm.trans hF
        exact V_lv' (w_X12_readMeet_L49 ht G2 hd ih _ _ _ _ hF) (v_all_c rfl (v_all_c rfl (v_all_c rfl (v_all_c rfl v_all_n))))
set_option maxRecDepth 100000 in
set_option maxHeartbeats 4000000 in
theorem s_X12_readMeet {l : Launch} {s0 : State} {D : va_G} {a0 : Array Value} {sh : List Sh} {f : Nat} {S : St} {t : Nat} (ht : isX12 sh t) {r : (St) ⊕ (Nat × St)} (G2 : GC2 l s0 D a0) (hF : F_X12_readMeet sh f S t = some r) {d : Nat} (hd : 9 ≤ d) : Sp l s0 D d 0 0 mX12_readMeet (fun v h => ∃ y, r = .inl y ∧ v = none ∧ h = wd s0.heap.size sh y) (fun q E h => ∃ y : Nat × St, r = .inr y ∧ q = s0.heap.size + y.1 ∧ E = RX11 ∧ h = wd s0.heap.size sh y.2) [.ref (s0.heap.size + t)] (wd s0.heap.size sh S) := by
  have G := G2.1
  obtain ⟨d, rfl⟩ : ∃ e, d = e + 1 := ⟨d - 1, by omega⟩
  refine Sp.of (by decide +kernel) rfl (Nat.le_of_ble_eq_true rfl) ?_
  unfold F_X12_readMeet at hF
  refine V_aload_n dX12_readMeet_0 rfl ?_
  refine X_gI G dX12_readMeet_1 fX12_159 ht.1 rfl ?_
  obtain ⟨x1, qx1, hF⟩ := bnd_g hF
  refine B_istore_n qx1 dX12_readMeet_4 (by decide) ?_
  refine V_aload_n dX12_readMeet_5 rfl ?_
  obtain ⟨b2, hrb2, hF⟩ := bd hF
  obtain ⟨hb2, hF⟩ := gv_in hF
  replace hb2 := ckX9_ok hb2
  refine X_gR G dX12_readMeet_6 fX12_19 ht.1 rfl hrb2 ?_
  refine X_gI G dX12_readMeet_9 fX12_278 hb2.1 rfl ?_
  refine V_iconst (v := 4) dX12_readMeet_12 (by decide) ?_
  refine V_icmp_ne (tgt := 23) dX12_readMeet_13 (by decide) (fun c => ?_) (fun c => ?_)
  · replace hF := (if_neg c).symm.trans hF
    refine V_aload_n dX12_readMeet_23 rfl ?_
    obtain ⟨b3, hrb3, hF⟩ := bd hF
    obtain ⟨hb3, hF⟩ := gv_in hF
    replace hb3 := ckX9_ok hb3
    refine X_gR G dX12_readMeet_24 fX12_19 ht.1 rfl hrb3 ?_
    refine X_gI G dX12_readMeet_27 fX12_278 hb3.1 rfl ?_
    obtain ⟨x4, qx4, hF⟩ := bnd_g hF
    refine B_istore_n qx4 dX12_readMeet_30 (by decide) ?_
    refine V_iconst (v := 0) dX12_readMeet_31 (by decide) ?_
    refine V_istore_n dX12_readMeet_32 (by decide) ?_
    refine V_aload_n dX12_readMeet_33 rfl ?_
    obtain ⟨y5, hc, hF⟩ := bd hF
    refine V_callV G dX12_readMeet_34 kX12_236 (wd_at ht.1) ⟨by decide, rfl⟩ (s_X12_next ht G hc (by omega)) rfl (Nat.le_of_ble_eq_true rfl) (fun _ _ _ q => q.elim) ?_
    rintro _ _ ⟨rfl, rfl⟩
    exact V_lv' (w_X12_readMeet_L37 ht G2 hd f _ _ _ _ hF) (v_all_c rfl (v_all_c rfl (v_all_c rfl (v_all_c rfl v_all_n))))
  · replace hF := (if_pos c).symm.trans hF
    refine V_aload_n dX12_readMeet_16 rfl ?_
    refine V_bipush (v := 6) dX12_readMeet_17 (by decide) ?_
    obtain ⟨y6, hc, hF⟩ := bd hF
    refine V_callV G dX12_readMeet_19 kX12_230 (wd_at ht.1) ⟨by decide, rfl⟩ (s_X12_stop ht G hc (by omega)) rfl (Nat.le_of_ble_eq_true rfl) (fun _ _ _ q => q.elim) ?_
    rintro _ _ ⟨rfl, rfl⟩
    obtain ⟨hy6, hF⟩ := gv_out hF
    replace hy6 := ckX11_ok (Decidable.not_not.mp hy6)
    cases hF
    exact V_athrow G dX12_readMeet_22 (wd_at hy6) (by decide) rfl (fun x hx => nomatch hx) ⟨_, rfl, rfl, rfl, rfl⟩
set_option maxRecDepth 100000 in
set_option maxHeartbeats 4000000 in
theorem w_X12_readBook_L2 {l : Launch} {s0 : State} {D : va_G} {a0 : Array Value} {sh : List Sh} {f : Nat} {t : Nat} (ht : isX12 sh t) {r : (St) ⊕ (Nat × St)} {d : Nat} (G2 : GC2 l s0 D a0) (hd : 11 ≤ d + 1) : ∀ (n : Nat) (S : St) (l1 : Int32), F_X12_readBook_L2 sh f t n S l1 = some r → V l s0 D (d + 1) 0 0 mX12_readBook (fun v h => ∃ y, r = .inl y ∧ v = none ∧ h = wd s0.heap.size sh y) (fun q E h => ∃ y : Nat × St, r = .inr y ∧ q = s0.heap.size + y.1 ∧ E = RX11 ∧ h = wd s0.heap.size sh y.2) 2 [(0, .ref (s0.heap.size + t)), (1, .int l1)] [] (wd s0.heap.size sh S) := by
  have G := G2.1
  intro n
  induction n with
  | zero => intro S l1 hF; cases hF
  | succ n ih =>
    intro S l1 hF
    unfold F_X12_readBook_L2 at hF
    refine V_iload_n dX12_readBook_2 rfl ?_
    refine V_if_eq (tgt := 97) dX12_readBook_3 (by decide) (fun c => ?_) (fun c => ?_)
    · replace hF := (if_pos c).symm.trans hF
      refine V_aload_n dX12_readBook_97 rfl ?_
      refine X_gI G dX12_readBook_98 fX12_186 ht.1 rfl ?_
      refine V_iconst (v := 1) dX12_readBook_101 (by decide) ?_
      refine V_icmp_eq (tgt := 111) dX12_readBook_102 (by decide) (fun c => ?_) (fun c => ?_)
      · replace hF := (if_pos c).symm.trans hF
        cases hF
        exact V_return dX12_readBook_111 rfl ⟨_, rfl, rfl, rfl⟩
      · replace hF := (if_neg c).symm.trans hF
        refine V_aload_n dX12_readBook_105 rfl ?_
        refine V_iconst (v := 1) dX12_readBook_106 (by decide) ?_
        obtain ⟨y1, hc, hF⟩ := bd hF
        refine V_callV G dX12_readBook_107 kX12_230 (wd_at ht.1) ⟨by decide, rfl⟩ (s_X12_stop ht G hc (by omega)) rfl (Nat.le_of_ble_eq_true rfl) (fun _ _ _ q => q.elim) ?_
        rintro _ _ ⟨rfl, rfl⟩
        obtain ⟨hy1, hF⟩ := gv_out hF
        replace hy1 := ckX11_ok (Decidable.not_not.mp hy1)
        cases hF
        exact V_athrow G dX12_readBook_110 (wd_at hy1) (by decide) rfl (fun x hx => nomatch hx) ⟨_, rfl, rfl, rfl, rfl⟩
    · replace hF := (if_neg c).symm.trans hF
      refine V_aload_n dX12_readBook_6 rfl ?_
      refine V_ldcs (i := 0) G2 dX12_readBook_7 (by decide) rfl rfl (fun a2 ha2 => ?_)
      obtain ⟨y3, hc, hF⟩ := bd hF
      refine V_callV G dX12_readBook_9 kX12_211 (wd_at ht.1) ⟨by decide, rfl⟩ (s_X12_isWord ht ha2 G2 hc (by omega)) rfl (Nat.le_of_ble_eq_true rfl) (fun _ _ _ q => q.elim) ?_
      rintro _ _ ⟨rfl, rfl⟩
      refine V_if_eq (tgt := 23) dX12_readBook_12 (by decide) (fun c => ?_) (fun c => ?_)
      · replace hF := (if_pos c).symm.trans hF
        refine V_aload_n dX12_readBook_23 rfl ?_
        refine V_ldcs (i := 1) G2 dX12_readBook_24 (by decide) rfl rfl (fun a4 ha4 => ?_)
        obtain ⟨y5, hc, hF⟩ := bd hF
        refine V_callV G dX12_readBook_26 kX12_211 (wd_at ht.1) ⟨by decide, rfl⟩ (s_X12_isWord ht ha4 G2 hc (by omega)) rfl (Nat.le_of_ble_eq_true rfl) (fun _ _ _ q => q.elim) ?_
        rintro _ _ ⟨rfl, rfl⟩
        refine V_if_eq (tgt := 40) dX12_readBook_29 (by decide) (fun c => ?_) (fun c => ?_)
        · replace hF := (if_pos c).symm.trans hF
          refine V_aload_n dX12_readBook_40 rfl ?_
          refine V_ldcs (i := 2) G2 dX12_readBook_41 (by decide) rfl rfl (fun a6 ha6 => ?_)
          obtain ⟨y7, hc, hF⟩ := bd hF
          refine V_callV G dX12_readBook_43 kX12_211 (wd_at ht.1) ⟨by decide, rfl⟩ (s_X12_isWord ht ha6 G2 hc (by omega)) rfl (Nat.le_of_ble_eq_true rfl) (fun _ _ _ q => q.elim) ?_
          rintro _ _ ⟨rfl, rfl⟩
          refine V_if_eq (tgt := 57) dX12_readBook_46 (by decide) (fun c => ?_) (fun c => ?_)
          · replace hF := (if_pos c).symm.trans hF
            refine V_aload_n dX12_readBook_57 rfl ?_
            refine V_ldcs (i := 3) G2 dX12_readBook_58 (by decide) rfl rfl (fun a8 ha8 => ?_)
            obtain ⟨y9, hc, hF⟩ := bd hF
            refine V_callV G dX12_readBook_60 kX12_211 (wd_at ht.1) ⟨by decide, rfl⟩ (s_X12_isWord ht ha8 G2 hc (by omega)) rfl (Nat.le_of_ble_eq_true rfl) (fun _ _ _ q => q.elim) ?_
            rintro _ _ ⟨rfl, rfl⟩
            refine V_if_eq (tgt := 73) dX12_readBook_63 (by decide) (fun c => ?_) (fun c => ?_)
            · replace hF := (if_pos c).symm.trans hF
              refine V_aload_n dX12_readBook_73 rfl ?_
              refine V_iconst (v := 1) dX12_readBook_74 (by decide) ?_
              obtain ⟨y10, hc, hF⟩ := bd hF
              refine V_callV G dX12_readBook_75 kX12_230 (wd_at ht.1) ⟨by decide, rfl⟩ (s_X12_stop ht G hc (by omega)) rfl (Nat.le_of_ble_eq_true rfl) (fun _ _ _ q => q.elim) ?_
              rintro _ _ ⟨rfl, rfl⟩
              obtain ⟨hy10, hF⟩ := gv_out hF
              replace hy10 := ckX11_ok (Decidable.not_not.mp hy10)
              cases hF
              exact V_athrow G dX12_readBook_78 (wd_at hy10) (by decide) rfl (fun x hx => nomatch hx) ⟨_, rfl, rfl, rfl, rfl⟩
            · replace hF := (if_neg c).symm.trans hF
              refine V_aload_n dX12_readBook_66 rfl ?_
              obtain ⟨y11, hc, hF⟩ := bd hF
              refine V_callV G dX12_readBook_67 kX12_227 (wd_at ht.1) ⟨by decide, rfl⟩ (s_X12_readMeet ht G2 hc (by omega)) rfl (Nat.le_of_ble_eq_true rfl) (by rintro _ _ _ ⟨y9, rfl, rfl, rfl, rfl⟩; cases hF; exact ⟨⟨_, rfl, rfl, rfl, rfl⟩, fun x hx => nomatch hx⟩) ?_
              rintro _ _ ⟨y11, rfl, rfl, rfl⟩
              replace hF := thr_l hF
              refine V_goto (tgt := 79) dX12_readBook_70 (by decide) ?_
              refine V_aload_n dX12_readBook_79 rfl ?_
              refine V_bipush (v := 59) dX12_readBook_80 (by decide) ?_
              obtain ⟨y12, hc, hF⟩ := bd hF
              refine V_callV G dX12_readBook_82 kX12_233 (wd_at ht.1) ⟨by decide, rfl⟩ (s_X12_is ht G hc (by omega)) rfl (Nat.le_of_ble_eq_true rfl) (fun _ _ _ q => q.elim) ?_
              rintro _ _ ⟨rfl, rfl⟩
              refine V_istore_n dX12_readBook_85 (by decide) ?_
              refine V_iload_n dX12_readBook_86 rfl ?_
              refine V_if_eq (tgt := 2) dX12_readBook_87 (by decide) (fun c => ?_) (fun c => ?_)
              · replace hF := (if_pos c).symm.trans hF
                exact V_lv' (ih _ _ hF) (v_all_c rfl (v_all_c rfl v_all_n))
              · replace hF := (if_neg c).symm.trans hF
                refine V_aload_n dX12_readBook_90 rfl ?_
                obtain ⟨y13, hc, hF⟩ := bd hF
                refine V_callV G dX12_readBook_91 kX12_236 (wd_at ht.1) ⟨by decide, rfl⟩ (s_X12_next ht G hc (by omega)) rfl (Nat.le_of_ble_eq_true rfl) (fun _ _ _ q => q.elim) ?_
                rintro _ _ ⟨rfl, rfl⟩
                refine V_goto (tgt := 2) dX12_readBook_94 (by decide) ?_
                exact V_lv' (ih _ _ hF) (v_all_c rfl (v_all_c rfl v_all_n))
          · replace hF := (if_neg c).symm.trans hF
            refine V_aload_n dX12_readBook_49 rfl ?_
            refine V_iconst (v := 2) dX12_readBook_50 (by decide) ?_
            obtain ⟨y14, hc, hF⟩ := bd hF
            refine V_callV G dX12_readBook_51 kX12_223 (wd_at ht.1) ⟨by decide, rfl⟩ (s_X12_readKinds ht G2 hc (by omega)) rfl (Nat.le_of_ble_eq_true rfl) (by rintro _ _ _ ⟨y9, rfl, rfl, rfl, rfl⟩; cases hF; exact ⟨⟨_, rfl, rfl, rfl, rfl⟩, fun x hx => nomatch hx⟩) ?_
            rintro _ _ ⟨y14, rfl, rfl, rfl⟩
            replace hF := thr_l hF
            refine V_goto (tgt := 79) dX12_readBook_54 (by decide) ?_
            refine V_aload_n dX12_readBook_79 rfl ?_
            refine V_bipush (v := 59) dX12_readBook_80 (by decide) ?_
            obtain ⟨y15, hc, hF⟩ := bd hF
            refine V_callV G dX12_readBook_82 kX12_233 (wd_at ht.1) ⟨by decide, rfl⟩ (s_X12_is ht G hc (by omega)) rfl (Nat.le_of_ble_eq_true rfl) (fun _ _ _ q => q.elim) ?_
            rintro _ _ ⟨rfl, rfl⟩
            refine V_istore_n dX12_readBook_85 (by decide) ?_
            refine V_iload_n dX12_readBook_86 rfl ?_
            refine V_if_eq (tgt := 2) dX12_readBook_87 (by decide) (fun c => ?_) (fun c => ?_)
            · replace hF := (if_pos c).symm.trans hF
              exact V_lv' (ih _ _ hF) (v_all_c rfl (v_all_c rfl v_all_n))
            · replace hF := (if_neg c).symm.trans hF
              refine V_aload_n dX12_readBook_90 rfl ?_
              obtain ⟨y16, hc, hF⟩ := bd hF
              refine V_callV G dX12_readBook_91 kX12_236 (wd_at ht.1) ⟨by decide, rfl⟩ (s_X12_next ht G hc (by omega)) rfl (Nat.le_of_ble_eq_true rfl) (fun _ _ _ q => q.elim) ?_
              rintro _ _ ⟨rfl, rfl⟩
              refine V_goto (tgt := 2) dX12_readBook_94 (by decide) ?_
              exact V_lv' (ih _ _ hF) (v_all_c rfl (v_all_c rfl v_all_n))
        · replace hF := (if_neg c).symm.trans hF
          refine V_aload_n dX12_readBook_32 rfl ?_
          refine V_iconst (v := 1) dX12_readBook_33 (by decide) ?_
          obtain ⟨y17, hc, hF⟩ := bd hF
          refine V_callV G dX12_readBook_34 kX12_223 (wd_at ht.1) ⟨by decide, rfl⟩ (s_X12_readKinds ht G2 hc (by omega)) rfl (Nat.le_of_ble_eq_true rfl) (by rintro _ _ _ ⟨y9, rfl, rfl, rfl, rfl⟩; cases hF; exact ⟨⟨_, rfl, rfl, rfl, rfl⟩, fun x hx => nomatch hx⟩) ?_
          rintro _ _ ⟨y17, rfl, rfl, rfl⟩
          replace hF := thr_l hF
          refine V_goto (tgt := 79) dX12_readBook_37 (by decide) ?_
          refine V_aload_n dX12_readBook_79 rfl ?_
          refine V_bipush (v := 59) dX12_readBook_80 (by decide) ?_
          obtain ⟨y18, hc, hF⟩ := bd hF
          refine V_callV G dX12_readBook_82 kX12_233 (wd_at ht.1) ⟨by decide, rfl⟩ (s_X12_is ht G hc (by omega)) rfl (Nat.le_of_ble_eq_true rfl) (fun _ _ _ q => q.elim) ?_
          rintro _ _ ⟨rfl, rfl⟩
          refine V_istore_n dX12_readBook_85 (by decide) ?_
          refine V_iload_n dX12_readBook_86 rfl ?_
          refine V_if_eq (tgt := 2) dX12_readBook_87 (by decide) (fun c => ?_) (fun c => ?_)
          · replace hF := (if_pos c).symm.trans hF
            exact V_lv' (ih _ _ hF) (v_all_c rfl (v_all_c rfl v_all_n))
          · replace hF := (if_neg c).symm.trans hF
            refine V_aload_n dX12_readBook_90 rfl ?_
            obtain ⟨y19, hc, hF⟩ := bd hF
            refine V_callV G dX12_readBook_91 kX12_236 (wd_at ht.1) ⟨by decide, rfl⟩ (s_X12_next ht G hc (by omega)) rfl (Nat.le_of_ble_eq_true rfl) (fun _ _ _ q => q.elim) ?_
            rintro _ _ ⟨rfl, rfl⟩
            refine V_goto (tgt := 2) dX12_readBook_94 (by decide) ?_
            exact V_lv' (ih _ _ hF) (v_all_c rfl (v_all_c rfl v_all_n))
      · replace hF := (if_neg c).symm.trans hF
        refine V_aload_n dX12_readBook_15 rfl ?_
        refine V_iconst (v := 0) dX12_readBook_16 (by decide) ?_
        obtain ⟨y20, hc, hF⟩ := bd hF
        refine V_callV G dX12_readBook_17 kX12_223 (wd_at ht.1) ⟨by decide, rfl⟩ (s_X12_readKinds ht G2 hc (by omega)) rfl (Nat.le_of_ble_eq_true rfl) (by rintro _ _ _ ⟨y9, rfl, rfl, rfl, rfl⟩; cases hF; exact ⟨⟨_, rfl, rfl, rfl, rfl⟩, fun x hx => nomatch hx⟩) ?_
        rintro _ _ ⟨y20, rfl, rfl, rfl⟩
        replace hF := thr_l hF
        refine V_goto (tgt := 79) dX12_readBook_20 (by decide) ?_
        refine V_aload_n dX12_readBook_79 rfl ?_
        refine V_bipush (v := 59) dX12_readBook_80 (by decide) ?_
        obtain ⟨y21, hc, hF⟩ := bd hF
        refine V_callV G dX12_readBook_82 kX12_233 (wd_at ht.1) ⟨by decide, rfl⟩ (s_X12_is ht G hc (by omega)) rfl (Nat.le_of_ble_eq_true rfl) (fun _ _ _ q => q.elim) ?_
        rintro _ _ ⟨rfl, rfl⟩
        refine V_istore_n dX12_readBook_85 (by decide) ?_
        refine V_iload_n dX12_readBook_86 rfl ?_
        refine V_if_eq (tgt := 2) dX12_readBook_87 (by decide) (fun c => ?_) (fun c => ?_)
        · replace hF := (if_pos c).symm.trans hF
          exact V_lv' (ih _ _ hF) (v_all_c rfl (v_all_c rfl v_all_n))
        · replace hF := (if_neg c).symm.trans hF
          refine V_aload_n dX12_readBook_90 rfl ?_
          obtain ⟨y22, hc, hF⟩ := bd hF
          refine V_callV G dX12_readBook_91 kX12_236 (wd_at ht.1) ⟨by decide, rfl⟩ (s_X12_next ht G hc (by omega)) rfl (Nat.le_of_ble_eq_true rfl) (fun _ _ _ q => q.elim) ?_
          rintro _ _ ⟨rfl, rfl⟩
          refine V_goto (tgt := 2) dX12_readBook_94 (by decide) ?_
          exact V_lv' (ih _ _ hF) (v_all_c rfl (v_all_c rfl v_all_n))
set_option maxRecDepth 100000 in
set_option maxHeartbeats 4000000 in
theorem s_X12_readBook {l : Launch} {s0 : State} {D : va_G} {a0 : Array Value} {sh : List Sh} {f : Nat} {S : St} {t : Nat} (ht : isX12 sh t) {r : (St) ⊕ (Nat × St)} (G2 : GC2 l s0 D a0) (hF : F_X12_readBook sh f S t = some r) {d : Nat} (hd : 11 ≤ d) : Sp l s0 D d 0 0 mX12_readBook (fun v h => ∃ y, r = .inl y ∧ v = none ∧ h = wd s0.heap.size sh y) (fun q E h => ∃ y : Nat × St, r = .inr y ∧ q = s0.heap.size + y.1 ∧ E = RX11 ∧ h = wd s0.heap.size sh y.2) [.ref (s0.heap.size + t)] (wd s0.heap.size sh S) := by
  have G := G2.1
  obtain ⟨d, rfl⟩ : ∃ e, d = e + 1 := ⟨d - 1, by omega⟩
  refine Sp.of (by decide +kernel) rfl (Nat.le_of_ble_eq_true rfl) ?_
  unfold F_X12_readBook at hF
  refine V_iconst (v := 1) dX12_readBook_0 (by decide) ?_
  refine V_istore_n dX12_readBook_1 (by decide) ?_
  exact V_lv' (w_X12_readBook_L2 ht G2 hd f _ _ hF) (v_all_c rfl (v_all_c rfl v_all_n))

