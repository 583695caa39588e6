set_option maxRecDepth 100000 in
set_option maxHeartbeats 4000000 in
theorem s_X12_where {l : Launch} {s0 : State} {D : va_G} {a0 : Array Value} {sh : List Sh} {f : Nat} {S : St} {t : Nat} (ht : isX12 sh t) {r : Int32 × St} (G : GC l s0 D a0) (hF : F_X12_where sh f S t = some r) {d : Nat} (hd : 1 ≤ d) : Sp l s0 D d 0 0 mX12_where (fun v h => v = some (.int r.1) ∧ h = wd s0.heap.size sh r.2) v_noX [.ref (s0.heap.size + t)] (wd s0.heap.size sh S) := by
  obtain ⟨d, rfl⟩ : ∃ e, d = e + 1 := ⟨d - 1, by omega⟩
  refine Sp.of (by decide +kernel) rfl (Nat.le_of_ble_eq_true rfl) ?_
  unfold F_X12_where at hF
  refine V_aload_n dX12_where_0 rfl ?_
  refine V_iconst (v := 0) dX12_where_1 (by decide) ?_
  refine X_pI G dX12_where_2 gX12_147 ht.1 rfl rfl rfl ?_
  obtain ⟨S1, qS1, hF⟩ := bnd_g hF
  refine V_eqS qS1 ?_
  refine V_aload_n dX12_where_5 rfl ?_
  refine X_gI G dX12_where_6 fX12_9 ht.1 rfl ?_
  cases hF
  exact V_ireturn dX12_where_9 rfl rfl ⟨rfl, rfl⟩
set_option maxRecDepth 100000 in
set_option maxHeartbeats 4000000 in
theorem s_X12_isKind {l : Launch} {s0 : State} {D : va_G} {a0 : Array Value} {sh : List Sh} {f : Nat} {S : St} {t : Nat} {p1 : Int32} (ht : isX12 sh t) {r : Int32} (G : GC l s0 D a0) (hF : F_X12_isKind sh f S t p1 = some r) {d : Nat} (hd : 1 ≤ d) : Sp l s0 D d 0 0 mX12_isKind (fun v h => v = some (.int r) ∧ h = wd s0.heap.size sh S) v_noX [.ref (s0.heap.size + t), .int p1] (wd s0.heap.size sh S) := by
  obtain ⟨d, rfl⟩ : ∃ e, d = e + 1 := ⟨d - 1, by omega⟩
  refine Sp.of (by decide +kernel) rfl (Nat.le_of_ble_eq_true rfl) ?_
  unfold F_X12_isKind at hF
  refine V_aload_n dX12_isKind_0 rfl ?_
  cases hr : sR S t 5 with
  | none =>
    replace hF := oN_n hr hF
    refine X_gN G dX12_isKind_1 fX12_312 ht.1 rfl hr ?_
    refine V_ifnullN (tgt := 26) dX12_isKind_4 (by decide) ?_
    refine V_iconst (v := 0) dX12_isKind_26 (by decide) ?_
    cases hF
    exact V_ireturn dX12_isKind_27 rfl (by decide) ⟨rfl, rfl⟩
  | some z =>
    replace hF := oN_s hr hF
    refine X_gR G dX12_isKind_1 fX12_312 ht.1 rfl hr ?_
    refine V_ifnull dX12_isKind_4 ?_
    refine V_iload_n dX12_isKind_7 rfl ?_
    refine V_if_lt (tgt := 26) dX12_isKind_8 (by decide) (fun c => ?_) (fun c => ?_)
    · replace hF := (if_pos c).symm.trans hF
      refine V_iconst (v := 0) dX12_isKind_26 (by decide) ?_
      cases hF
      exact V_ireturn dX12_isKind_27 rfl (by decide) ⟨rfl, rfl⟩
    · replace hF := (if_neg c).symm.trans hF
      refine V_iload_n dX12_isKind_11 rfl ?_
      refine V_aload_n dX12_isKind_12 rfl ?_
      obtain ⟨b2, hrb2, hF⟩ := bd hF
      obtain ⟨hb2, hF⟩ := gv_in hF
      replace hb2 := ckX9_ok hb2
      refine X_gR G dX12_isKind_13 fX12_312 ht.1 rfl hrb2 ?_
      refine X_gI G dX12_isKind_16 fX12_272 hb2.1 rfl ?_
      refine V_icmp_ge (tgt := 26) dX12_isKind_19 (by decide) (fun c => ?_) (fun c => ?_)
      · replace hF := (if_pos c).symm.trans hF
        refine V_iconst (v := 0) dX12_isKind_26 (by decide) ?_
        cases hF
        exact V_ireturn dX12_isKind_27 rfl (by decide) ⟨rfl, rfl⟩
      · replace hF := (if_neg c).symm.trans hF
        refine V_iconst (v := 1) dX12_isKind_22 (by decide) ?_
        refine V_goto (tgt := 27) dX12_isKind_23 (by decide) ?_
        cases hF
        exact V_ireturn dX12_isKind_27 rfl (by decide) ⟨rfl, rfl⟩
set_option maxRecDepth 100000 in
set_option maxHeartbeats 4000000 in
theorem s_X12_kind {l : Launch} {s0 : State} {D : va_G} {a0 : Array Value} {sh : List Sh} {f : Nat} {S : St} {t : Nat} {p1 : Int32} {p2 : Int32} (ht : isX12 sh t) {r : Int32 × St} (G : GC l s0 D a0) (hF : F_X12_kind sh f S t p1 p2 = some r) {d : Nat} (hd : 2 ≤ d) : Sp l s0 D d 0 0 mX12_kind (fun v h => v = some (.int r.1) ∧ h = wd s0.heap.size sh r.2) v_noX [.ref (s0.heap.size + t), .int p1, .int p2] (wd s0.heap.size sh S) := by
  obtain ⟨d, rfl⟩ : ∃ e, d = e + 1 := ⟨d - 1, by omega⟩
  refine Sp.of (by decide +kernel) rfl (Nat.le_of_ble_eq_true rfl) ?_
  unfold F_X12_kind at hF
  refine V_aload_n dX12_kind_0 rfl ?_
  refine V_iconst (v := 0) dX12_kind_1 (by decide) ?_
  refine X_pI G dX12_kind_2 gX12_147 ht.1 rfl rfl rfl ?_
  obtain ⟨S1, qS1, hF⟩ := bnd_g hF
  refine V_eqS qS1 ?_
  refine V_aload_n dX12_kind_5 rfl ?_
  refine V_iload_n dX12_kind_6 rfl ?_
  obtain ⟨y2, hc, hF⟩ := bd hF
  refine V_callV G dX12_kind_7 kX12_325 (wd_at ht.1) ⟨by decide, rfl⟩ (s_X12_isKind ht G hc (by omega)) rfl (Nat.le_of_ble_eq_true rfl) (fun _ _ _ q => q.elim) ?_
  rintro _ _ ⟨rfl, rfl⟩
  refine V_if_ne (tgt := 17) dX12_kind_10 (by decide) (fun c => ?_) (fun c => ?_)
  · replace hF := (if_neg c).symm.trans hF
    refine V_iload_n dX12_kind_17 rfl ?_
    by_cases c0 : p2 = (0 : Int32)
    · replace hF := (if_pos c0).symm.trans hF
      refine V_tableIn (off := 30) (tgt := 48) dX12_kind_18 (by rw [c0]; decide) (by rw [c0]; decide) (by rw [c0]; decide) (by decide) ?_
      refine V_aload_n dX12_kind_48 rfl ?_
      obtain ⟨b3, hrb3, hF⟩ := bd hF
      obtain ⟨hb3, hF⟩ := gv_in hF
      replace hb3 := ckX9_ok hb3
      refine X_gR G dX12_kind_49 fX12_312 ht.1 rfl hrb3 ?_
      refine X_gC G dX12_kind_52 fX12_257 hb3.1 rfl ?_
      refine V_iload_n dX12_kind_55 rfl ?_
      obtain ⟨hz, hF⟩ := gv_out hF
      refine X_iald dX12_kind_56 hb3.2.2.1 hz ?_
      cases hF
      exact V_ireturn dX12_kind_57 rfl rfl ⟨rfl, rfl⟩
    replace hF := (if_neg c0).symm.trans hF
    by_cases c1 : p2 = (1 : Int32)
    · replace hF := (if_pos c1).symm.trans hF
      refine V_tableIn (off := 40) (tgt := 58) dX12_kind_18 (by rw [c1]; decide) (by rw [c1]; decide) (by rw [c1]; decide) (by decide) ?_
      refine V_aload_n dX12_kind_58 rfl ?_
      obtain ⟨b4, hrb4, hF⟩ := bd hF
      obtain ⟨hb4, hF⟩ := gv_in hF
      replace hb4 := ckX9_ok hb4
      refine X_gR G dX12_kind_59 fX12_312 ht.1 rfl hrb4 ?_
      refine X_gC G dX12_kind_62 fX12_252 hb4.1 rfl ?_
      refine V_iload_n dX12_kind_65 rfl ?_
      obtain ⟨hz, hF⟩ := gv_out hF
      refine X_iald dX12_kind_66 hb4.2.2.2.1 hz ?_
      cases hF
      exact V_ireturn dX12_kind_67 rfl rfl ⟨rfl, rfl⟩
    replace hF := (if_neg c1).symm.trans hF
    by_cases c2 : p2 = (2 : Int32)
    · replace hF := (if_pos c2).symm.trans hF
      refine V_tableIn (off := 50) (tgt := 68) dX12_kind_18 (by rw [c2]; decide) (by rw [c2]; decide) (by rw [c2]; decide) (by decide) ?_
      refine V_aload_n dX12_kind_68 rfl ?_
      obtain ⟨b5, hrb5, hF⟩ := bd hF
      obtain ⟨hb5, hF⟩ := gv_in hF
      replace hb5 := ckX9_ok hb5
      refine X_gR G dX12_kind_69 fX12_312 ht.1 rfl hrb5 ?_
      refine X_gC G dX12_kind_72 fX12_255 hb5.1 rfl ?_
      refine V_iload_n dX12_kind_75 rfl ?_
      obtain ⟨hz, hF⟩ := gv_out hF
      refine X_iald dX12_kind_76 hb5.2.2.2.2.1 hz ?_
      cases hF
      exact V_ireturn dX12_kind_77 rfl rfl ⟨rfl, rfl⟩
    replace hF := (if_neg c2).symm.trans hF
    by_cases c3 : p2 = (3 : Int32)
    · replace hF := (if_pos c3).symm.trans hF
      refine V_tableIn (off := 60) (tgt := 78) dX12_kind_18 (by rw [c3]; decide) (by rw [c3]; decide) (by rw [c3]; decide) (by decide) ?_
      refine V_aload_n dX12_kind_78 rfl ?_
      obtain ⟨b6, hrb6, hF⟩ := bd hF
      obtain ⟨hb6, hF⟩ := gv_in hF
      replace hb6 := ckX9_ok hb6
      refine X_gR G dX12_kind_79 fX12_312 ht.1 rfl hrb6 ?_
      refine X_gC G dX12_kind_82 fX12_250 hb6.1 rfl ?_
      refine V_iload_n dX12_kind_85 rfl ?_
      obtain ⟨hz, hF⟩ := gv_out hF
      refine X_iald dX12_kind_86 hb6.2.2.2.2.2.1 hz ?_
      cases hF
      exact V_ireturn dX12_kind_87 rfl rfl ⟨rfl, rfl⟩
    replace hF := (if_neg c3).symm.trans hF
    refine V_tableOut (tgt := 88) dX12_kind_18 (by have e0 := ts_ne c0 (n := 0) (by decide); have e1 := ts_ne c1 (n := 1) (by decide); have e2 := ts_ne c2 (n := 2) (by decide); have e3 := ts_ne c3 (n := 3) (by decide); omega) (by decide) ?_
    refine V_ldcw dX12_kind_88 qX12_330 ?_
    cases hF
    exact V_ireturn dX12_kind_91 rfl rfl ⟨rfl, rfl⟩
  · replace hF := (if_pos c).symm.trans hF
    refine V_ldcw dX12_kind_13 qX12_330 ?_
    cases hF
    exact V_ireturn dX12_kind_16 rfl rfl ⟨rfl, rfl⟩
set_option maxRecDepth 100000 in
set_option maxHeartbeats 4000000 in
theorem s_X12_rule {l : Launch} {s0 : State} {D : va_G} {a0 : Array Value} {sh : List Sh} {f : Nat} {S : St} {t : Nat} {p1 : Int32} {p2 : Int32} (ht : isX12 sh t) {r : Int32 × St} (G : GC l s0 D a0) (hF : F_X12_rule sh f S t p1 p2 = some r) {d : Nat} (hd : 2 ≤ d) : Sp l s0 D d 0 0 mX12_rule (fun v h => v = some (.int r.1) ∧ h = wd s0.heap.size sh r.2) v_noX [.ref (s0.heap.size + t), .int p1, .int p2] (wd s0.heap.size sh S) := by
  obtain ⟨d, rfl⟩ : ∃ e, d = e + 1 := ⟨d - 1, by omega⟩
  refine Sp.of (by decide +kernel) rfl (Nat.le_of_ble_eq_true rfl) ?_
  unfold F_X12_rule at hF
  refine V_aload_n dX12_rule_0 rfl ?_
  refine V_iconst (v := 0) dX12_rule_1 (by decide) ?_
  refine X_pI G dX12_rule_2 gX12_147 ht.1 rfl rfl rfl ?_
  obtain ⟨S1, qS1, hF⟩ := bnd_g hF
  refine V_eqS qS1 ?_
  refine V_aload_n dX12_rule_5 rfl ?_
  cases hr : sR S1 t 5 with
  | none =>
    replace hF := oN_n hr hF
    refine X_gN G dX12_rule_6 fX12_312 ht.1 rfl hr ?_
    refine V_ifnullN (tgt := 37) dX12_rule_9 (by decide) ?_
    refine V_ldcw dX12_rule_37 qX12_330 ?_
    cases hF
    exact V_ireturn dX12_rule_40 rfl rfl ⟨rfl, rfl⟩
  | some z =>
    replace hF := oN_s hr hF
    refine X_gR G dX12_rule_6 fX12_312 ht.1 rfl hr ?_
    refine V_ifnull dX12_rule_9 ?_
    refine V_iload_n dX12_rule_12 rfl ?_
    refine V_if_lt (tgt := 37) dX12_rule_13 (by decide) (fun c => ?_) (fun c => ?_)
    · replace hF := (if_pos c).symm.trans hF
      refine V_ldcw dX12_rule_37 qX12_330 ?_
      cases hF
      exact V_ireturn dX12_rule_40 rfl rfl ⟨rfl, rfl⟩
    · replace hF := (if_neg c).symm.trans hF
      refine V_iload_n dX12_rule_16 rfl ?_
      refine V_aload_n dX12_rule_17 rfl ?_
      obtain ⟨b3, hrb3, hF⟩ := bd hF
      obtain ⟨hb3, hF⟩ := gv_in hF
      replace hb3 := ckX9_ok hb3
      refine X_gR G dX12_rule_18 fX12_312 ht.1 rfl hrb3 ?_
      refine X_gI G dX12_rule_21 fX12_278 hb3.1 rfl ?_
      refine V_icmp_ge (tgt := 37) dX12_rule_24 (by decide) (fun c => ?_) (fun c => ?_)
      · replace hF := (if_pos c).symm.trans hF
        refine V_ldcw dX12_rule_37 qX12_330 ?_
        cases hF
        exact V_ireturn dX12_rule_40 rfl rfl ⟨rfl, rfl⟩
      · replace hF := (if_neg c).symm.trans hF
        refine V_iload_n dX12_rule_27 rfl ?_
        refine V_iconst (v := 0) dX12_rule_28 (by decide) ?_
        refine V_bipush (v := 6) dX12_rule_29 (by decide) ?_
        obtain ⟨y4, hc, hF⟩ := bd hF
        refine V_callS dX12_rule_31 kX12_242 (s_X12_in G hc (by omega)) rfl (Nat.le_of_ble_eq_true rfl) (fun _ _ _ q => q.elim) ?_
        rintro _ _ ⟨rfl, rfl⟩
        refine V_if_ne (tgt := 41) dX12_rule_34 (by decide) (fun c => ?_) (fun c => ?_)
        · replace hF := (if_neg c).symm.trans hF
          refine V_iload_n dX12_rule_41 rfl ?_
          refine V_if_ne (tgt := 55) dX12_rule_42 (by decide) (fun c => ?_) (fun c => ?_)
          · replace hF := (if_neg c).symm.trans hF
            refine V_iload_n dX12_rule_55 rfl ?_
            refine V_iconst (v := 1) dX12_rule_56 (by decide) ?_
            refine V_icmp_ne (tgt := 70) dX12_rule_57 (by decide) (fun c => ?_) (fun c => ?_)
            · replace hF := (if_neg c).symm.trans hF
              refine V_iload_n dX12_rule_70 rfl ?_
              refine V_iconst (v := 2) dX12_rule_71 (by decide) ?_
              refine V_icmp_ne (tgt := 85) dX12_rule_72 (by decide) (fun c => ?_) (fun c => ?_)
              · replace hF := (if_neg c).symm.trans hF
                refine V_iload_n dX12_rule_85 rfl ?_
                refine V_iconst (v := 3) dX12_rule_86 (by decide) ?_
                refine V_isub dX12_rule_87 ?_
                refine V_aload_n dX12_rule_88 rfl ?_
                obtain ⟨b5, hrb5, hF⟩ := bd hF
                obtain ⟨hb5, hF⟩ := gv_in hF
                replace hb5 := ckX9_ok hb5
                refine X_gR G dX12_rule_89 fX12_312 ht.1 rfl hrb5 ?_
                refine X_gC G dX12_rule_92 fX12_284 hb5.1 rfl ?_
                refine V_iload_n dX12_rule_95 rfl ?_
                obtain ⟨hz, hF⟩ := gv_out hF
                refine X_iald dX12_rule_96 hb5.2.2.2.2.2.2.1 hz ?_
                refine V_icmp_ge (tgt := 118) dX12_rule_97 (by decide) (fun c => ?_) (fun c => ?_)
                · replace hF := (if_pos c).symm.trans hF
                  refine V_bipush (v := -2) dX12_rule_118 (by decide) ?_
                  cases hF
                  exact V_ireturn dX12_rule_120 rfl rfl ⟨rfl, rfl⟩
                · replace hF := (if_neg c).symm.trans hF
                  refine V_aload_n dX12_rule_100 rfl ?_
                  obtain ⟨b6, hrb6, hF⟩ := bd hF
                  obtain ⟨hb6, hF⟩ := gv_in hF
                  replace hb6 := ckX9_ok hb6
                  refine X_gR G dX12_rule_101 fX12_312 ht.1 rfl hrb6 ?_
                  refine X_gC G dX12_rule_104 fX12_281 hb6.1 rfl ?_
                  refine V_iconst (v := 4) dX12_rule_107 (by decide) ?_
                  refine V_iload_n dX12_rule_108 rfl ?_
                  refine V_imul dX12_rule_109 ?_
                  refine V_iload_n dX12_rule_110 rfl ?_
                  refine V_iadd dX12_rule_111 ?_
                  refine V_iconst (v := 3) dX12_rule_112 (by decide) ?_
                  refine V_isub dX12_rule_113 ?_
                  obtain ⟨hz, hF⟩ := gv_out hF
                  refine X_iald dX12_rule_114 hb6.2.2.2.2.2.2.2.1 hz ?_
                  refine V_goto (tgt := 120) dX12_rule_115 (by decide) ?_
                  cases hF
                  exact V_ireturn dX12_rule_120 rfl rfl ⟨rfl, rfl⟩
              · replace hF := (if_pos c).symm.trans hF
                refine V_aload_n dX12_rule_75 rfl ?_
                obtain ⟨b7, hrb7, hF⟩ := bd hF
                obtain ⟨hb7, hF⟩ := gv_in hF
                replace hb7 := ckX9_ok hb7
                refine X_gR G dX12_rule_76 fX12_312 ht.1 rfl hrb7 ?_
                refine X_gC G dX12_rule_79 fX12_290 hb7.1 rfl ?_
                refine V_iload_n dX12_rule_82 rfl ?_
                obtain ⟨hz, hF⟩ := gv_out hF
                refine X_iald dX12_rule_83 hb7.2.2.2.2.2.2.2.2.2.1 hz ?_
                cases hF
                exact V_ireturn dX12_rule_84 rfl rfl ⟨rfl, rfl⟩
            · replace hF := (if_pos c).symm.trans hF
              refine V_aload_n dX12_rule_60 rfl ?_
              obtain ⟨b8, hrb8, hF⟩ := bd hF
              obtain ⟨hb8, hF⟩ := gv_in hF
              replace hb8 := ckX9_ok hb8
              refine X_gR G dX12_rule_61 fX12_312 ht.1 rfl hrb8 ?_
              refine X_gC G dX12_rule_64 fX12_287 hb8.1 rfl ?_
              refine V_iload_n dX12_rule_67 rfl ?_
              obtain ⟨hz, hF⟩ := gv_out hF
              refine X_iald dX12_rule_68 hb8.2.2.2.2.2.2.2.2.1 hz ?_
              cases hF
              exact V_ireturn dX12_rule_69 rfl rfl ⟨rfl, rfl⟩
          · replace hF := (if_pos c).symm.trans hF
            refine V_aload_n dX12_rule_45 rfl ?_
            obtain ⟨b9, hrb9, hF⟩ := bd hF
            obtain ⟨hb9, hF⟩ := gv_in hF
            replace hb9 := ckX9_ok hb9
            refine X_gR G dX12_rule_46 fX12_312 ht.1 rfl hrb9 ?_
            refine X_gC G dX12_rule_49 fX12_284 hb9.1 rfl ?_
            refine V_iload_n dX12_rule_52 rfl ?_
            obtain ⟨hz, hF⟩ := gv_out hF
            refine X_iald dX12_rule_53 hb9.2.2.2.2.2.2.1 hz ?_
            cases hF
            exact V_ireturn dX12_rule_54 rfl rfl ⟨rfl, rfl⟩
        · replace hF := (if_pos c).symm.trans hF
          refine V_ldcw dX12_rule_37 qX12_330 ?_
          cases hF
          exact V_ireturn dX12_rule_40 rfl rfl ⟨rfl, rfl⟩
set_option maxRecDepth 100000 in
set_option maxHeartbeats 4000000 in
theorem w_X12_meeting_L105 {l : Launch} {s0 : State} {D : va_G} {a0 : Array Value} {sh : List Sh} {f : Nat} {t : Nat} {p1 : Int32} {p2 : Int32} {p3 : Int32} {p4 : Int32} {p5 : Int32} {p6 : Int32} (ht : isX12 sh t) {r : Int32 × St} {d : Nat} (G : GC l s0 D a0) (hd : 2 ≤ d + 1) {k27 : St → Int32 → Int32 → Int32 → Option (Int32 × St)} (hk27 : ∀ (S : St) (l7 : Int32) (l8 : Int32) (l9 : Int32), k27 S l7 l8 l9 = some r → V l s0 D (d + 1) 0 0 mX12_meeting (fun v h => v = some (.int r.1) ∧ h = wd s0.heap.size sh r.2) v_noX 27 [(0, .ref (s0.heap.size + t)), (1, .int p1), (2, .int p2), (3, .int p3), (4, .int p4), (5, .int p5), (6, .int p6), (7, .int l7), (8, .int l8), (9, .int l9)] [] (wd s0.heap.size sh S)) : ∀ (S : St) (l7 : Int32) (l9 : Int32) (l10 : Int32) (v0 : Int32), F_X12_meeting_L105 sh f t p1 p2 p3 p4 p5 p6 k27 S l7 l9 l10 v0 = some r → V l s0 D (d + 1) 0 0 mX12_meeting (fun v h => v = some (.int r.1) ∧ h = wd s0.heap.size sh r.2) v_noX 105 [(0, .ref (s0.heap.size + t)), (1, .int p1), (2, .int p2), (3, .int p3), (4, .int p4), (5, .int p5), (6, .int p6), (7, .int l7), (9, .int l9), (10, .int l10)] [.int v0] (wd s0.heap.size sh S) := by
  intro S l7 l9 l10 v0 hF
  unfold F_X12_meeting_L105 at hF
  refine V_istore dX12_meeting_105 (by decide) ?_
  refine V_iload dX12_meeting_107 rfl ?_
  refine V_if_ne (tgt := 115) dX12_meeting_109 (by decide) (fun c => ?_) (fun c => ?_)
  · replace hF := (if_neg c).symm.trans hF
    refine V_aload_n dX12_meeting_115 rfl ?_
    refine V_iload dX12_meeting_116 rfl ?_
    obtain ⟨y1, hc, hF⟩ := bd hF
    refine V_callV G dX12_meeting_118 kX12_325 (wd_at ht.1) ⟨by decide, rfl⟩ (s_X12_isKind ht G hc (by omega)) rfl (Nat.le_of_ble_eq_true rfl) (fun _ _ _ q => q.elim) ?_
    rintro _ _ ⟨rfl, rfl⟩
    refine V_if_ne (tgt := 130) dX12_meeting_121 (by decide) (fun c => ?_) (fun c => ?_)
    · replace hF := (if_neg c).symm.trans hF
      obtain ⟨x2, qx2, hF⟩ := bnd_g hF
      refine B_iinc (v := 1) qx2 dX12_meeting_130 rfl (by decide) (by decide) ?_
      obtain ⟨x3, qx3, hF⟩ := bnd_g hF
      refine B_iinc (v := 1) qx3 dX12_meeting_133 rfl (by decide) (by decide) ?_
      refine V_goto (tgt := 27) dX12_meeting_136 (by decide) ?_
      exact V_lv' (hk27 _ _ _ _ hF) (v_all_c rfl (v_all_c rfl (v_all_c rfl (v_all_c rfl (v_all_c rfl (v_all_c rfl (v_all_c rfl (v_all_c rfl (v_all_c rfl (v_all_c rfl v_all_n))))))))))
    · replace hF := (if_pos c).symm.trans hF
      refine V_aload_n dX12_meeting_124 rfl ?_
      refine V_iconst (v := 1) dX12_meeting_125 (by decide) ?_
      obtain ⟨y4, hc, hF⟩ := bd hF
      refine V_callV G dX12_meeting_126 kX12_303 (wd_at ht.1) ⟨by decide, rfl⟩ (s_X12_refused ht G hc (by omega)) rfl (Nat.le_of_ble_eq_true rfl) (fun _ _ _ q => q.elim) ?_
      rintro _ _ ⟨rfl, rfl⟩
      cases hF
      exact V_ireturn dX12_meeting_129 rfl rfl ⟨rfl, rfl⟩
  · replace hF := (if_pos c).symm.trans hF
    refine V_goto (tgt := 133) dX12_meeting_112 (by decide) ?_
    obtain ⟨x5, qx5, hF⟩ := bnd_g hF
    refine B_iinc (v := 1) qx5 dX12_meeting_133 rfl (by decide) (by decide) ?_
    refine V_goto (tgt := 27) dX12_meeting_136 (by decide) ?_
    exact V_lv' (hk27 _ _ _ _ hF) (v_all_c rfl (v_all_c rfl (v_all_c rfl (v_all_c rfl (v_all_c rfl (v_all_c rfl (v_all_c rfl (v_all_c rfl (v_all_c rfl (v_all_c rfl v_all_n))))))))))
set_option maxRecDepth 100000 in
set_option maxHeartbeats 4000000 in
theorem w_X12_meeting_L92 {l : Launch} {s0 : State} {D : va_G} {a0 : Array Value} {sh : List Sh} {f : Nat} {t : Nat} {p1 : Int32} {p2 : Int32} {p3 : Int32} {p4 : Int32} {p5 : Int32} {p6 : Int32} (ht : isX12 sh t) {r : Int32 × St} {d : Nat} (G : GC l s0 D a0) (hd : 2 ≤ d + 1) {k27 : St → Int32 → Int32 → Int32 → Option (Int32 × St)} (hk27 : ∀ (S : St) (l7 : Int32) (l8 : Int32) (l9 : Int32), k27 S l7 l8 l9 = some r → V l s0 D (d + 1) 0 0 mX12_meeting (fun v h => v = some (.int r.1) ∧ h = wd s0.heap.size sh r.2) v_noX 27 [(0, .ref (s0.heap.size + t)), (1, .int p1), (2, .int p2), (3, .int p3), (4, .int p4), (5, .int p5), (6, .int p6), (7, .int l7), (8, .int l8), (9, .int l9)] [] (wd s0.heap.size sh S)) : ∀ (S : St) (l7 : Int32) (l9 : Int32) (v0 : Int32), F_X12_meeting_L92 sh f t p1 p2 p3 p4 p5 p6 k27 S l7 l9 v0 = some r → V l s0 D (d + 1) 0 0 mX12_meeting (fun v h => v = some (.int r.1) ∧ h = wd s0.heap.size sh r.2) v_noX 92 [(0, .ref (s0.heap.size + t)), (1, .int p1), (2, .int p2), (3, .int p3), (4, .int p4), (5, .int p5), (6, .int p6), (7, .int l7), (9, .int l9)] [.int v0] (wd s0.heap.size sh S) := by
  intro S l7 l9 v0 hF
  unfold F_X12_meeting_L92 at hF
  refine V_istore dX12_meeting_92 (by decide) ?_
  refine V_iload dX12_meeting_94 rfl ?_
  refine V_iconst (v := -1) dX12_meeting_96 (by decide) ?_
  refine V_icmp_eq (tgt := 104) dX12_meeting_97 (by decide) (fun c => ?_) (fun c => ?_)
  · replace hF := (if_pos c).symm.trans hF
    refine V_iconst (v := 0) dX12_meeting_104 (by decide) ?_
    exact V_lv' (w_X12_meeting_L105 ht G hd hk27 _ _ _ _ _ hF) (v_all_c rfl (v_all_c rfl (v_all_c rfl (v_all_c rfl (v_all_c rfl (v_all_c rfl (v_all_c rfl (v_all_c rfl (v_all_c rfl (v_all_c rfl v_all_n))))))))))
  · replace hF := (if_neg c).symm.trans hF
    refine V_iconst (v := 1) dX12_meeting_100 (by decide) ?_
    refine V_goto (tgt := 105) dX12_meeting_101 (by decide) ?_
    exact V_lv' (w_X12_meeting_L105 ht G hd hk27 _ _ _ _ _ hF) (v_all_c rfl (v_all_c rfl (v_all_c rfl (v_all_c rfl (v_all_c rfl (v_all_c rfl (v_all_c rfl (v_all_c rfl (v_all_c rfl (v_all_c rfl v_all_n))))))))))
set_option maxRecDepth 100000 in
set_option maxHeartbeats 4000000 in
theorem w_X12_meeting_L205 {l : Launch} {s0 : State} {D : va_G} {a0 : Array Value} {sh : List Sh} {f : Nat} {t : Nat} {p1 : Int32} {p2 : Int32} {p3 : Int32} {p4 : Int32} {p5 : Int32} {p6 : Int32} (ht : isX12 sh t) {r : Int32 × St} {d : Nat} (G : GC l s0 D a0) (hd : 2 ≤ d + 1) : ∀ (n : Nat) (S : St) (l7 : Int32) (l9 : Int32), F_X12_meeting_L205 sh f t p1 p2 p3 p4 p5 p6 n S l7 l9 = some r → V l s0 D (d + 1) 0 0 mX12_meeting (fun v h => v = some (.int r.1) ∧ h = wd s0.heap.size sh r.2) v_noX 205 [(0, .ref (s0.heap.size + t)), (7, .int l7), (9, .int l9)] [] (wd s0.heap.size sh S) := by
  intro n
  induction n with
  | zero => intro S l7 l9 hF; cases hF
  | succ n ih =>
    intro S l7 l9 hF
    unfold F_X12_meeting_L205 at hF
    refine V_iload dX12_meeting_205 rfl ?_
    refine V_bipush (v := 6) dX12_meeting_207 (by decide) ?_
    refine V_icmp_ge (tgt := 226) dX12_meeting_209 (by decide) (fun c => ?_) (fun c => ?_)
    · replace hF := (if_pos c).symm.trans hF
      refine V_aload_n dX12_meeting_226 rfl ?_
      refine V_iconst (v := 0) dX12_meeting_227 (by decide) ?_
      refine X_pI G dX12_meeting_228 gX12_318 ht.1 rfl (by decide) (by decide) ?_
      obtain ⟨S1, qS1, hF⟩ := bnd_g hF
      refine V_eqS qS1 ?_
      refine V_aload_n dX12_meeting_231 rfl ?_
      refine V_iload dX12_meeting_232 rfl ?_
      obtain ⟨y2, hc, hF⟩ := bd hF
      refine V_callV G dX12_meeting_234 kX12_322 (wd_at ht.1) ⟨by decide, rfl⟩ (s_X12_done ht G hc (by omega)) rfl (Nat.le_of_ble_eq_true rfl) (fun _ _ _ q => q.elim) ?_
      rintro _ _ ⟨rfl, rfl⟩
      cases hF
      exact V_ireturn dX12_meeting_237 rfl rfl ⟨rfl, rfl⟩
    · replace hF := (if_neg c).symm.trans hF
      refine V_aload_n dX12_meeting_212 rfl ?_
      refine X_gC G dX12_meeting_213 fX12_38 ht.1 rfl ?_
      refine V_iload dX12_meeting_216 rfl ?_
      refine V_iconst (v := 0) dX12_meeting_218 (by decide) ?_
      obtain ⟨hz, hF⟩ := gv_out hF
      refine X_iast dX12_meeting_219 ht.2.2.2.2.1 hz ?_
      obtain ⟨S3, qS3, hF⟩ := bnd_g hF
      refine V_eqS qS3 ?_
      obtain ⟨x4, qx4, hF⟩ := bnd_g hF
      refine B_iinc (v := 1) qx4 dX12_meeting_220 rfl (by decide) (by decide) ?_
      refine V_goto (tgt := 205) dX12_meeting_223 (by decide) ?_
      exact V_lv' (ih _ _ _ hF) (v_all_c rfl (v_all_c rfl (v_all_c rfl v_all_n)))
set_option maxRecDepth 100000 in
set_option maxHeartbeats 4000000 in
theorem w_X12_meeting_L139 {l : Launch} {s0 : State} {D : va_G} {a0 : Array Value} {sh : List Sh} {f : Nat} {t : Nat} {p1 : Int32} {p2 : Int32} {p3 : Int32} {p4 : Int32} {p5 : Int32} {p6 : Int32} (ht : isX12 sh t) {r : Int32 × St} {d : Nat} (G : GC l s0 D a0) (hd : 2 ≤ d + 1) : ∀ (S : St) (l7 : Int32), F_X12_meeting_L139 sh f t p1 p2 p3 p4 p5 p6 S l7 = some r → V l s0 D (d + 1) 0 0 mX12_meeting (fun v h => v = some (.int r.1) ∧ h = wd s0.heap.size sh r.2) v_noX 139 [(0, .ref (s0.heap.size + t)), (1, .int p1), (2, .int p2), (3, .int p3), (4, .int p4), (5, .int p5), (6, .int p6), (7, .int l7)] [] (wd s0.heap.size sh S) := by
  intro S l7 hF
  unfold F_X12_meeting_L139 at hF
  refine V_iload dX12_meeting_139 rfl ?_
  refine V_iconst (v := 2) dX12_meeting_141 (by decide) ?_
  refine V_icmp_ge (tgt := 151) dX12_meeting_142 (by decide) (fun c => ?_) (fun c => ?_)
  · replace hF := (if_pos c).symm.trans hF
    refine V_aload_n dX12_meeting_151 rfl ?_
    refine V_iload dX12_meeting_152 rfl ?_
    refine X_pI G dX12_meeting_154 gX12_315 ht.1 rfl rfl rfl ?_
    obtain ⟨S1, qS1, hF⟩ := bnd_g hF
    refine V_eqS qS1 ?_
    refine V_aload_n dX12_meeting_157 rfl ?_
    refine X_gC G dX12_meeting_158 fX12_34 ht.1 rfl ?_
    refine V_iconst (v := 0) dX12_meeting_161 (by decide) ?_
    refine V_iload_n dX12_meeting_162 rfl ?_
    obtain ⟨hz, hF⟩ := gv_out hF
    refine X_iast dX12_meeting_163 ht.2.2.2.1 hz ?_
    obtain ⟨S2, qS2, hF⟩ := bnd_g hF
    refine V_eqS qS2 ?_
    refine V_aload_n dX12_meeting_164 rfl ?_
    refine X_gC G dX12_meeting_165 fX12_34 ht.1 rfl ?_
    refine V_iconst (v := 1) dX12_meeting_168 (by decide) ?_
    refine V_iload_n dX12_meeting_169 rfl ?_
    obtain ⟨hz, hF⟩ := gv_out hF
    refine X_iast dX12_meeting_170 ht.2.2.2.1 hz ?_
    obtain ⟨S3, qS3, hF⟩ := bnd_g hF
    refine V_eqS qS3 ?_
    refine V_aload_n dX12_meeting_171 rfl ?_
    refine X_gC G dX12_meeting_172 fX12_34 ht.1 rfl ?_
    refine V_iconst (v := 2) dX12_meeting_175 (by decide) ?_
    refine V_iload_n dX12_meeting_176 rfl ?_
    obtain ⟨hz, hF⟩ := gv_out hF
    refine X_iast dX12_meeting_177 ht.2.2.2.1 hz ?_
    obtain ⟨S4, qS4, hF⟩ := bnd_g hF
    refine V_eqS qS4 ?_
    refine V_aload_n dX12_meeting_178 rfl ?_
    refine X_gC G dX12_meeting_179 fX12_34 ht.1 rfl ?_
    refine V_iconst (v := 3) dX12_meeting_182 (by decide) ?_
    refine V_iload dX12_meeting_183 rfl ?_
    obtain ⟨hz, hF⟩ := gv_out hF
    refine X_iast dX12_meeting_185 ht.2.2.2.1 hz ?_
    obtain ⟨S5, qS5, hF⟩ := bnd_g hF
    refine V_eqS qS5 ?_
    refine V_aload_n dX12_meeting_186 rfl ?_
    refine X_gC G dX12_meeting_187 fX12_34 ht.1 rfl ?_
    refine V_iconst (v := 4) dX12_meeting_190 (by decide) ?_
    refine V_iload dX12_meeting_191 rfl ?_
    obtain ⟨hz, hF⟩ := gv_out hF
    refine X_iast dX12_meeting_193 ht.2.2.2.1 hz ?_
    obtain ⟨S6, qS6, hF⟩ := bnd_g hF
    refine V_eqS qS6 ?_
    refine V_aload_n dX12_meeting_194 rfl ?_
    refine X_gC G dX12_meeting_195 fX12_34 ht.1 rfl ?_
    refine V_iconst (v := 5) dX12_meeting_198 (by decide) ?_
    refine V_iload dX12_meeting_199 rfl ?_
    obtain ⟨hz, hF⟩ := gv_out hF
    refine X_iast dX12_meeting_201 ht.2.2.2.1 hz ?_
    obtain ⟨S7, qS7, hF⟩ := bnd_g hF
    refine V_eqS qS7 ?_
    refine V_iconst (v := 0) dX12_meeting_202 (by decide) ?_
    refine V_istore dX12_meeting_203 (by decide) ?_
    exact V_lv' (w_X12_meeting_L205 ht G hd f _ _ _ hF) (v_all_c rfl (v_all_c rfl (v_all_c rfl v_all_n)))
  · replace hF := (if_neg c).symm.trans hF
    refine V_aload_n dX12_meeting_145 rfl ?_
    refine V_iconst (v := 2) dX12_meeting_146 (by decide) ?_
    obtain ⟨y8, hc, hF⟩ := bd hF
    refine V_callV G dX12_meeting_147 kX12_303 (wd_at ht.1) ⟨by decide, rfl⟩ (s_X12_refused ht G hc (by omega)) rfl (Nat.le_of_ble_eq_true rfl) (fun _ _ _ q => q.elim) ?_
    rintro _ _ ⟨rfl, rfl⟩
    cases hF
    exact V_ireturn dX12_meeting_150 rfl rfl ⟨rfl, rfl⟩
set_option maxRecDepth 100000 in
set_option maxHeartbeats 4000000 in
theorem w_X12_meeting_L27 {l : Launch} {s0 : State} {D : va_G} {a0 : Array Value} {sh : List Sh} {f : Nat} {t : Nat} {p1 : Int32} {p2 : Int32} {p3 : Int32} {p4 : Int32} {p5 : Int32} {p6 : Int32} (ht : isX12 sh t) {r : Int32 × St} {d : Nat} (G : GC l s0 D a0) (hd : 2 ≤ d + 1) : ∀ (n : Nat) (S : St) (l7 : Int32) (l8 : Int32) (l9 : Int32), F_X12_meeting_L27 sh f t p1 p2 p3 p4 p5 p6 n S l7 l8 l9 = some r → V l s0 D (d + 1) 0 0 mX12_meeting (fun v h => v = some (.int r.1) ∧ h = wd s0.heap.size sh r.2) v_noX 27 [(0, .ref (s0.heap.size + t)), (1, .int p1), (2, .int p2), (3, .int p3), (4, .int p4), (5, .int p5), (6, .int p6), (7, .int l7), (8, .int l8), (9, .int l9)] [] (wd s0.heap.size sh S) := by
  intro n
  induction n with
  | zero => intro S l7 l8 l9 hF; cases hF
  | succ n ih =>
    intro S l7 l8 l9 hF
    unfold F_X12_meeting_L27 at hF
    refine V_iload dX12_meeting_27 rfl ?_
    refine V_bipush (v := 6) dX12_meeting_29 (by decide) ?_
    refine V_icmp_ge (tgt := 139) dX12_meeting_31 (by decide) (fun c => ?_) (fun c => ?_)
    · replace hF := (if_pos c).symm.trans hF
      exact V_lv' (w_X12_meeting_L139 ht G hd _ _ hF) (v_all_c rfl (v_all_c rfl (v_all_c rfl (v_all_c rfl (v_all_c rfl (v_all_c rfl (v_all_c rfl (v_all_c rfl v_all_n))))))))
    · replace hF := (if_neg c).symm.trans hF
      refine V_iload dX12_meeting_34 rfl ?_
      refine V_if_eq (tgt := 139) dX12_meeting_36 (by decide) (fun c => ?_) (fun c => ?_)
      · replace hF := (if_pos c).symm.trans hF
        exact V_lv' (w_X12_meeting_L139 ht G hd _ _ hF) (v_all_c rfl (v_all_c rfl (v_all_c rfl (v_all_c rfl (v_all_c rfl (v_all_c rfl (v_all_c rfl (v_all_c rfl v_all_n))))))))
      · replace hF := (if_neg c).symm.trans hF
        refine V_iload dX12_meeting_39 rfl ?_
        refine V_if_ne (tgt := 48) dX12_meeting_41 (by decide) (fun c => ?_) (fun c => ?_)
        · replace hF := (if_neg c).symm.trans hF
          refine V_iload dX12_meeting_48 rfl ?_
          refine V_iconst (v := 1) dX12_meeting_50 (by decide) ?_
          refine V_icmp_ne (tgt := 58) dX12_meeting_51 (by decide) (fun c => ?_) (fun c => ?_)
          · replace hF := (if_neg c).symm.trans hF
            refine V_iload dX12_meeting_58 rfl ?_
            refine V_iconst (v := 2) dX12_meeting_60 (by decide) ?_
            refine V_icmp_ne (tgt := 68) dX12_meeting_61 (by decide) (fun c => ?_) (fun c => ?_)
            · replace hF := (if_neg c).symm.trans hF
              refine V_iload dX12_meeting_68 rfl ?_
              refine V_iconst (v := 3) dX12_meeting_70 (by decide) ?_
              refine V_icmp_ne (tgt := 79) dX12_meeting_71 (by decide) (fun c => ?_) (fun c => ?_)
              · replace hF := (if_neg c).symm.trans hF
                refine V_iload dX12_meeting_79 rfl ?_
                refine V_iconst (v := 4) dX12_meeting_81 (by decide) ?_
                refine V_icmp_ne (tgt := 90) dX12_meeting_82 (by decide) (fun c => ?_) (fun c => ?_)
                · replace hF := (if_neg c).symm.trans hF
                  refine V_iload dX12_meeting_90 rfl ?_
                  exact V_lv' (w_X12_meeting_L92 ht G hd ih _ _ _ _ hF) (v_all_c rfl (v_all_c rfl (v_all_c rfl (v_all_c rfl (v_all_c rfl (v_all_c rfl (v_all_c rfl (v_all_c rfl (v_all_c rfl v_all_n)))))))))
                · replace hF := (if_pos c).symm.trans hF
                  refine V_iload dX12_meeting_85 rfl ?_
                  refine V_goto (tgt := 92) dX12_meeting_87 (by decide) ?_
                  exact V_lv' (w_X12_meeting_L92 ht G hd ih _ _ _ _ hF) (v_all_c rfl (v_all_c rfl (v_all_c rfl (v_all_c rfl (v_all_c rfl (v_all_c rfl (v_all_c rfl (v_all_c rfl (v_all_c rfl v_all_n)))))))))
              · replace hF := (if_pos c).symm.trans hF
                refine V_iload dX12_meeting_74 rfl ?_
                refine V_goto (tgt := 92) dX12_meeting_76 (by decide) ?_
                exact V_lv' (w_X12_meeting_L92 ht G hd ih _ _ _ _ hF) (v_all_c rfl (v_all_c rfl (v_all_c rfl (v_all_c rfl (v_all_c rfl (v_all_c rfl (v_all_c rfl (v_all_c rfl (v_all_c rfl v_all_n)))))))))
            · replace hF := (if_pos c).symm.trans hF
              refine V_iload_n dX12_meeting_64 rfl ?_
              refine V_goto (tgt := 92) dX12_meeting_65 (by decide) ?_
              exact V_lv' (w_X12_meeting_L92 ht G hd ih _ _ _ _ hF) (v_all_c rfl (v_all_c rfl (v_all_c rfl (v_all_c rfl (v_all_c rfl (v_all_c rfl (v_all_c rfl (v_all_c rfl (v_all_c rfl v_all_n)))))))))
          · replace hF := (if_pos c).symm.trans hF
            refine V_iload_n dX12_meeting_54 rfl ?_
            refine V_goto (tgt := 92) dX12_meeting_55 (by decide) ?_
            exact V_lv' (w_X12_meeting_L92 ht G hd ih _ _ _ _ hF) (v_all_c rfl (v_all_c rfl (v_all_c rfl (v_all_c rfl (v_all_c rfl (v_all_c rfl (v_all_c rfl (v_all_c rfl (v_all_c rfl v_all_n)))))))))
        · replace hF := (if_pos c).symm.trans hF
          refine V_iload_n dX12_meeting_44 rfl ?_
          refine V_goto (tgt := 92) dX12_meeting_45 (by decide) ?_
          exact V_lv' (w_X12_meeting_L92 ht G hd ih _ _ _ _ hF) (v_all_c rfl (v_all_c rfl (v_all_c rfl (v_all_c rfl (v_all_c rfl (v_all_c rfl (v_all_c rfl (v_all_c rfl (v_all_c rfl v_all_n)))))))))
set_option maxRecDepth 100000 in
set_option maxHeartbeats 4000000 in
theorem s_X12_meeting {l : Launch} {s0 : State} {D : va_G} {a0 : Array Value} {sh : List Sh} {f : Nat} {S : St} {t : Nat} {p1 : Int32} {p2 : Int32} {p3 : Int32} {p4 : Int32} {p5 : Int32} {p6 : Int32} (ht : isX12 sh t) {r : Int32 × St} (G : GC l s0 D a0) (hF : F_X12_meeting sh f S t p1 p2 p3 p4 p5 p6 = some r) {d : Nat} (hd : 2 ≤ d) : Sp l s0 D d 0 0 mX12_meeting (fun v h => v = some (.int r.1) ∧ h = wd s0.heap.size sh r.2) v_noX [.ref (s0.heap.size + t), .int p1, .int p2, .int p3, .int p4, .int p5, .int p6] (wd s0.heap.size sh S) := by
  obtain ⟨d, rfl⟩ : ∃ e, d = e + 1 := ⟨d - 1, by omega⟩
  refine Sp.of (by decide +kernel) rfl (Nat.le_of_ble_eq_true rfl) ?_
  unfold F_X12_meeting at hF
  refine V_aload_n dX12_meeting_0 rfl ?_
  refine V_iconst (v := 0) dX12_meeting_1 (by decide) ?_
  refine X_pI G dX12_meeting_2 gX12_147 ht.1 rfl rfl rfl ?_
  obtain ⟨S1, qS1, hF⟩ := bnd_g hF
  refine V_eqS qS1 ?_
  refine V_aload_n dX12_meeting_5 rfl ?_
  cases hr : sR S1 t 5 with
  | none =>
    replace hF := oN_n hr hF
    refine X_gN G dX12_meeting_6 fX12_312 ht.1 rfl hr ?_
    refine V_ifnonnullN dX12_meeting_9 ?_
    refine V_aload_n dX12_meeting_12 rfl ?_
    refine V_iconst (v := 1) dX12_meeting_13 (by decide) ?_
    obtain ⟨y3, hc, hF⟩ := bd hF
    refine V_callV G dX12_meeting_14 kX12_303 (wd_at ht.1) ⟨by decide, rfl⟩ (s_X12_refused ht G hc (by omega)) rfl (Nat.le_of_ble_eq_true rfl) (fun _ _ _ q => q.elim) ?_
    rintro _ _ ⟨rfl, rfl⟩
    cases hF
    exact V_ireturn dX12_meeting_17 rfl rfl ⟨rfl, rfl⟩
  | some z =>
    replace hF := oN_s hr hF
    refine X_gR G dX12_meeting_6 fX12_312 ht.1 rfl hr ?_
    refine V_ifnonnull (tgt := 18) dX12_meeting_9 (by decide) ?_
    refine V_iconst (v := 0) dX12_meeting_18 (by decide) ?_
    refine V_istore dX12_meeting_19 (by decide) ?_
    refine V_iconst (v := 1) dX12_meeting_21 (by decide) ?_
    refine V_istore dX12_meeting_22 (by decide) ?_
    refine V_iconst (v := 0) dX12_meeting_24 (by decide) ?_
    refine V_istore dX12_meeting_25 (by decide) ?_
    exact V_lv' (w_X12_meeting_L27 ht G hd f _ _ _ _ hF) (v_all_c rfl (v_all_c rfl (v_all_c rfl (v_all_c rfl (v_all_c rfl (v_all_c rfl (v_all_c rfl (v_all_c rfl (v_all_c rfl (v_all_c rfl v_all_n))))))))))
set_option maxRecDepth 100000 in
set_option maxHeartbeats 4000000 in
theorem s_X12_puts {l : Launch} {s0 : State} {D : va_G} {a0 : Array Value} {sh : List Sh} {f : Nat} {S : St} {t : Nat} {p1 : Int32} {p2 : Int32} (ht : isX12 sh t) {r : St} (G : GC l s0 D a0) (hF : F_X12_puts sh f S t p1 p2 = some r) {d : Nat} (hd : 1 ≤ d) : Sp l s0 D d 0 0 mX12_puts (fun v h => v = none ∧ h = wd s0.heap.size sh r) v_noX [.ref (s0.heap.size + t), .int p1, .int p2] (wd s0.heap.size sh S) := by
  obtain ⟨d, rfl⟩ : ∃ e, d = e + 1 := ⟨d - 1, by omega⟩
  refine Sp.of (by decide +kernel) rfl (Nat.le_of_ble_eq_true rfl) ?_
  unfold F_X12_puts at hF
  refine V_aload_n dX12_puts_0 rfl ?_
  refine X_gC G dX12_puts_1 fX12_57 ht.1 rfl ?_
  refine V_aload_n dX12_puts_4 rfl ?_
  refine X_gI G dX12_puts_5 fX12_331 ht.1 rfl ?_
  refine V_iload_n dX12_puts_8 rfl ?_
  obtain ⟨hz, hF⟩ := gv_out hF
  refine X_iast dX12_puts_9 ht.2.2.2.2.2.2.2.2.2.1 hz ?_
  obtain ⟨S1, qS1, hF⟩ := bnd_g hF
  refine V_eqS qS1 ?_
  refine V_aload_n dX12_puts_10 rfl ?_
  refine X_gC G dX12_puts_11 fX12_60 ht.1 rfl ?_
  refine V_aload_n dX12_puts_14 rfl ?_
  refine X_gI G dX12_puts_15 fX12_331 ht.1 rfl ?_
  refine V_iload_n dX12_puts_18 rfl ?_
  obtain ⟨hz, hF⟩ := gv_out hF
  refine X_iast dX12_puts_19 ht.2.2.2.2.2.2.2.2.2.2.1 hz ?_
  obtain ⟨S2, qS2, hF⟩ := bnd_g hF
  refine V_eqS qS2 ?_
  refine V_aload_n dX12_puts_20 rfl ?_
  refine V_dup dX12_puts_21 rfl ?_
  refine X_gI G dX12_puts_22 fX12_331 ht.1 rfl ?_
  refine V_iconst (v := 1) dX12_puts_25 (by decide) ?_
  refine V_iadd dX12_puts_26 ?_
  refine X_pI G dX12_puts_27 gX12_331 ht.1 rfl rfl rfl ?_
  obtain ⟨S3, qS3, hF⟩ := bnd_g hF
  refine V_eqS qS3 ?_
  cases hF
  exact V_return dX12_puts_30 rfl ⟨rfl, rfl⟩
set_option maxRecDepth 100000 in
set_option maxHeartbeats 4000000 in
theorem w_X12_lays_L92 {l : Launch} {s0 : State} {D : va_G} {a0 : Array Value} {sh : List Sh} {f : Nat} {t : Nat} {p1 : Nat} {p2 n2 : Nat} {p3 : Int32} (ht : isX12 sh t) (hp1 : isX10 sh p1) (hp2 : sh[p2]? = some (.inl (.int, n2))) {r : Int32 × St} {d : Nat} (G : GC l s0 D a0) (hd : 2 ≤ d + 1) {k39 : St → Int32 → Option (Int32 × St)} (hk39 : ∀ (S : St) (l4 : Int32), k39 S l4 = some r → V l s0 D (d + 1) 0 0 mX12_lays (fun v h => v = some (.int r.1) ∧ h = wd s0.heap.size sh r.2) v_noX 39 [(0, .ref (s0.heap.size + t)), (1, .ref (s0.heap.size + p1)), (2, .ref (s0.heap.size + p2)), (3, .int p3), (4, .int l4)] [] (wd s0.heap.size sh S)) : ∀ (n : Nat) (S : St) (l4 : Int32) (l5 : Int32) (l6 : Int32), F_X12_lays_L92 sh f t p1 p2 n2 p3 k39 n S l4 l5 l6 = some r → V l s0 D (d + 1) 0 0 mX12_lays (fun v h => v = some (.int r.1) ∧ h = wd s0.heap.size sh r.2) v_noX 92 [(0, .ref (s0.heap.size + t)), (1, .ref (s0.heap.size + p1)), (2, .ref (s0.heap.size + p2)), (3, .int p3), (4, .int l4), (5, .int l5), (6, .int l6)] [] (wd s0.heap.size sh S) := by
  intro n
  induction n with
  | zero => intro S l4 l5 l6 hF; cases hF
  | succ n ih =>
    intro S l4 l5 l6 hF
    unfold F_X12_lays_L92 at hF
    refine V_iload dX12_lays_92 rfl ?_
    refine V_aload_n dX12_lays_94 rfl ?_
    obtain ⟨b1, hrb1, hF⟩ := bd hF
    obtain ⟨hb1, hF⟩ := gv_in hF
    replace hb1 := ckX9_ok hb1
    refine X_gR G dX12_lays_95 fX12_312 ht.1 rfl hrb1 ?_
    refine X_gC G dX12_lays_98 fX12_284 hb1.1 rfl ?_
    refine V_iload dX12_lays_101 rfl ?_
    obtain ⟨hz, hF⟩ := gv_out hF
    refine X_iald dX12_lays_103 hb1.2.2.2.2.2.2.1 hz ?_
    refine V_icmp_ge (tgt := 139) dX12_lays_104 (by decide) (fun c => ?_) (fun c => ?_)
    · replace hF := (if_pos c).symm.trans hF
      obtain ⟨x2, qx2, hF⟩ := bnd_g hF
      refine B_iinc (v := 1) qx2 dX12_lays_139 rfl (by decide) (by decide) ?_
      refine V_goto (tgt := 39) dX12_lays_142 (by decide) ?_
      exact V_lv' (hk39 _ _ hF) (v_all_c rfl (v_all_c rfl (v_all_c rfl (v_all_c rfl (v_all_c rfl v_all_n)))))
    · replace hF := (if_neg c).symm.trans hF
      refine V_aload_n dX12_lays_107 rfl ?_
      refine V_aload_n dX12_lays_108 rfl ?_
      obtain ⟨b3, hrb3, hF⟩ := bd hF
      obtain ⟨hb3, hF⟩ := gv_in hF
      replace hb3 := ckX9_ok hb3
      refine X_gR G dX12_lays_109 fX12_312 ht.1 rfl hrb3 ?_
      refine X_gC G dX12_lays_112 fX12_281 hb3.1 rfl ?_
      refine V_iconst (v := 4) dX12_lays_115 (by decide) ?_
      refine V_iload dX12_lays_116 rfl ?_
      refine V_imul dX12_lays_118 ?_
      refine V_iload dX12_lays_119 rfl ?_
      refine V_iadd dX12_lays_121 ?_
      obtain ⟨hz, hF⟩ := gv_out hF
      refine X_iald dX12_lays_122 hb3.2.2.2.2.2.2.2.1 hz ?_
      refine V_aload_n dX12_lays_123 rfl ?_
      refine X_gI G dX12_lays_124 fX12_333 hp1.1 rfl ?_
      refine V_iload dX12_lays_127 rfl ?_
      refine V_iadd dX12_lays_129 ?_
      obtain ⟨y4, hc, hF⟩ := bd hF
      refine V_callV G dX12_lays_130 kX12_335 (wd_at ht.1) ⟨by decide, rfl⟩ (s_X12_puts ht G hc (by omega)) rfl (Nat.le_of_ble_eq_true rfl) (fun _ _ _ q => q.elim) ?_
      rintro _ _ ⟨rfl, rfl⟩
      obtain ⟨x5, qx5, hF⟩ := bnd_g hF
      refine B_iinc (v := 1) qx5 dX12_lays_133 rfl (by decide) (by decide) ?_
      refine V_goto (tgt := 92) dX12_lays_136 (by decide) ?_
      exact V_lv' (ih _ _ _ _ hF) (v_all_c rfl (v_all_c rfl (v_all_c rfl (v_all_c rfl (v_all_c rfl (v_all_c rfl (v_all_c rfl v_all_n)))))))
set_option maxRecDepth 100000 in
set_option maxHeartbeats 4000000 in
theorem w_X12_lays_L39 {l : Launch} {s0 : State} {D : va_G} {a0 : Array Value} {sh : List Sh} {f : Nat} {t : Nat} {p1 : Nat} {p2 n2 : Nat} {p3 : Int32} (ht : isX12 sh t) (hp1 : isX10 sh p1) (hp2 : sh[p2]? = some (.inl (.int, n2))) {r : Int32 × St} {d : Nat} (G : GC l s0 D a0) (hd : 2 ≤ d + 1) : ∀ (n : Nat) (S : St) (l4 : Int32), F_X12_lays_L39 sh f t p1 p2 n2 p3 n S l4 = some r → V l s0 D (d + 1) 0 0 mX12_lays (fun v h => v = some (.int r.1) ∧ h = wd s0.heap.size sh r.2) v_noX 39 [(0, .ref (s0.heap.size + t)), (1, .ref (s0.heap.size + p1)), (2, .ref (s0.heap.size + p2)), (3, .int p3), (4, .int l4)] [] (wd s0.heap.size sh S) := by
  intro n
  induction n with
  | zero => intro S l4 hF; cases hF
  | succ n ih =>
    intro S l4 hF
    unfold F_X12_lays_L39 at hF
    refine V_iload dX12_lays_39 rfl ?_
    refine V_aload_n dX12_lays_41 rfl ?_
    refine X_gI G dX12_lays_42 fX12_339 hp1.1 rfl ?_
    refine V_icmp_ge (tgt := 145) dX12_lays_45 (by decide) (fun c => ?_) (fun c => ?_)
    · replace hF := (if_pos c).symm.trans hF
      refine V_aload_n dX12_lays_145 rfl ?_
      refine V_aload_n dX12_lays_146 rfl ?_
      refine X_gI G dX12_lays_147 fX12_333 hp1.1 rfl ?_
      refine V_aload_n dX12_lays_150 rfl ?_
      refine X_gI G dX12_lays_151 fX12_339 hp1.1 rfl ?_
      refine V_iadd dX12_lays_154 ?_
      refine X_pI G dX12_lays_155 gX12_342 ht.1 rfl rfl rfl ?_
      obtain ⟨S1, qS1, hF⟩ := bnd_g hF
      refine V_eqS qS1 ?_
      refine V_aload_n dX12_lays_158 rfl ?_
      refine X_gI G dX12_lays_159 fX12_331 ht.1 rfl ?_
      refine V_iconst (v := 2) dX12_lays_162 (by decide) ?_
      refine V_irem dX12_lays_163 (by decide) ?_
      refine V_if_ne (tgt := 171) dX12_lays_164 (by decide) (fun c => ?_) (fun c => ?_)
      · replace hF := (if_neg c).symm.trans hF
        refine V_iconst (v := 0) dX12_lays_171 (by decide) ?_
        cases hF
        exact V_ireturn dX12_lays_172 rfl (by decide) ⟨rfl, rfl⟩
      · replace hF := (if_pos c).symm.trans hF
        refine V_iconst (v := 1) dX12_lays_167 (by decide) ?_
        refine V_goto (tgt := 172) dX12_lays_168 (by decide) ?_
        cases hF
        exact V_ireturn dX12_lays_172 rfl (by decide) ⟨rfl, rfl⟩
    · replace hF := (if_neg c).symm.trans hF
      refine V_aload_n dX12_lays_48 rfl ?_
      refine V_iload_n dX12_lays_49 rfl ?_
      refine V_iload dX12_lays_50 rfl ?_
      refine V_iadd dX12_lays_52 ?_
      obtain ⟨hz, hF⟩ := gv_out hF
      refine X_iald dX12_lays_53 hp2 hz ?_
      obtain ⟨x2, qx2, hF⟩ := bnd_g hF
      refine B_istore qx2 dX12_lays_54 (by decide) ?_
      refine V_aload_n dX12_lays_56 rfl ?_
      refine X_gI G dX12_lays_57 fX12_331 ht.1 rfl ?_
      refine V_aload_n dX12_lays_60 rfl ?_
      obtain ⟨b3, hrb3, hF⟩ := bd hF
      obtain ⟨hb3, hF⟩ := gv_in hF
      replace hb3 := ckX9_ok hb3
      refine X_gR G dX12_lays_61 fX12_312 ht.1 rfl hrb3 ?_
      refine X_gC G dX12_lays_64 fX12_284 hb3.1 rfl ?_
      refine V_iload dX12_lays_67 rfl ?_
      obtain ⟨hz, hF⟩ := gv_out hF
      refine X_iald dX12_lays_69 hb3.2.2.2.2.2.2.1 hz ?_
      refine V_iadd dX12_lays_70 ?_
      refine V_bipush (v := 12) dX12_lays_71 (by decide) ?_
      refine V_icmp_le (tgt := 78) dX12_lays_73 (by decide) (fun c => ?_) (fun c => ?_)
      · replace hF := (if_pos c).symm.trans hF
        refine V_aload_n dX12_lays_78 rfl ?_
        refine X_gC G dX12_lays_79 fX12_66 ht.1 rfl ?_
        refine V_iload dX12_lays_82 rfl ?_
        refine V_aload_n dX12_lays_84 rfl ?_
        refine X_gI G dX12_lays_85 fX12_331 ht.1 rfl ?_
        obtain ⟨hz, hF⟩ := gv_out hF
        refine X_iast dX12_lays_88 ht.2.2.2.2.2.2.2.2.2.2.2.2.1 hz ?_
        obtain ⟨S4, qS4, hF⟩ := bnd_g hF
        refine V_eqS qS4 ?_
        refine V_iconst (v := 0) dX12_lays_89 (by decide) ?_
        refine V_istore dX12_lays_90 (by decide) ?_
        exact V_lv' (w_X12_lays_L92 ht hp1 hp2 G hd ih f _ _ _ _ hF) (v_all_c rfl (v_all_c rfl (v_all_c rfl (v_all_c rfl (v_all_c rfl (v_all_c rfl (v_all_c rfl v_all_n)))))))
      · replace hF := (if_neg c).symm.trans hF
        refine V_iconst (v := 0) dX12_lays_76 (by decide) ?_
        cases hF
        exact V_ireturn dX12_lays_77 rfl (by decide) ⟨rfl, rfl⟩
set_option maxRecDepth 100000 in
set_option maxHeartbeats 4000000 in
theorem w_X12_lays_L8 {l : Launch} {s0 : State} {D : va_G} {a0 : Array Value} {sh : List Sh} {f : Nat} {t : Nat} {p1 : Nat} {p2 n2 : Nat} {p3 : Int32} (ht : isX12 sh t) (hp1 : isX10 sh p1) (hp2 : sh[p2]? = some (.inl (.int, n2))) {r : Int32 × St} {d : Nat} (G : GC l s0 D a0) (hd : 2 ≤ d + 1) : ∀ (n : Nat) (S : St) (l4 : Int32), F_X12_lays_L8 sh f t p1 p2 n2 p3 n S l4 = some r → V l s0 D (d + 1) 0 0 mX12_lays (fun v h => v = some (.int r.1) ∧ h = wd s0.heap.size sh r.2) v_noX 8 [(0, .ref (s0.heap.size + t)), (1, .ref (s0.heap.size + p1)), (2, .ref (s0.heap.size + p2)), (3, .int p3), (4, .int l4)] [] (wd s0.heap.size sh S) := by
  intro n
  induction n with
  | zero => intro S l4 hF; cases hF
  | succ n ih =>
    intro S l4 hF
    unfold F_X12_lays_L8 at hF
    refine V_iload dX12_lays_8 rfl ?_
    refine V_aload_n dX12_lays_10 rfl ?_
    refine X_gI G dX12_lays_11 fX12_333 hp1.1 rfl ?_
    refine V_icmp_ge (tgt := 36) dX12_lays_14 (by decide) (fun c => ?_) (fun c => ?_)
    · replace hF := (if_pos c).symm.trans hF
      refine V_iconst (v := 0) dX12_lays_36 (by decide) ?_
      refine V_istore dX12_lays_37 (by decide) ?_
      exact V_lv' (w_X12_lays_L39 ht hp1 hp2 G hd f _ _ hF) (v_all_c rfl (v_all_c rfl (v_all_c rfl (v_all_c rfl (v_all_c rfl v_all_n)))))
    · replace hF := (if_neg c).symm.trans hF
      refine V_aload_n dX12_lays_17 rfl ?_
      refine V_aload_n dX12_lays_18 rfl ?_
      refine X_gC G dX12_lays_19 fX12_334 hp1.1 rfl ?_
      refine V_iload dX12_lays_22 rfl ?_
      obtain ⟨hz, hF⟩ := gv_out hF
      refine X_iald dX12_lays_24 hp1.2.1 hz ?_
      refine V_iload dX12_lays_25 rfl ?_
      obtain ⟨y1, hc, hF⟩ := bd hF
      refine V_callV G dX12_lays_27 kX12_335 (wd_at ht.1) ⟨by decide, rfl⟩ (s_X12_puts ht G hc (by omega)) rfl (Nat.le_of_ble_eq_true rfl) (fun _ _ _ q => q.elim) ?_
      rintro _ _ ⟨rfl, rfl⟩
      obtain ⟨x2, qx2, hF⟩ := bnd_g hF
      refine B_iinc (v := 1) qx2 dX12_lays_30 rfl (by decide) (by decide) ?_
      refine V_goto (tgt := 8) dX12_lays_33 (by decide) ?_
      exact V_lv' (ih _ _ hF) (v_all_c rfl (v_all_c rfl (v_all_c rfl (v_all_c rfl (v_all_c rfl v_all_n)))))
set_option maxRecDepth 100000 in
set_option maxHeartbeats 4000000 in
theorem s_X12_lays {l : Launch} {s0 : State} {D : va_G} {a0 : Array Value} {sh : List Sh} {f : Nat} {S : St} {t : Nat} {p1 : Nat} {p2 n2 : Nat} {p3 : Int32} (ht : isX12 sh t) (hp1 : isX10 sh p1) (hp2 : sh[p2]? = some (.inl (.int, n2))) {r : Int32 × St} (G : GC l s0 D a0) (hF : F_X12_lays sh f S t p1 p2 n2 p3 = some r) {d : Nat} (hd : 2 ≤ d) : Sp l s0 D d 0 0 mX12_lays (fun v h => v = some (.int r.1) ∧ h = wd s0.heap.size sh r.2) v_noX [.ref (s0.heap.size + t), .ref (s0.heap.size + p1), .ref (s0.heap.size + p2), .int p3] (wd s0.heap.size sh S) := by
  obtain ⟨d, rfl⟩ : ∃ e, d = e + 1 := ⟨d - 1, by omega⟩
  refine Sp.of (by decide +kernel) rfl (Nat.le_of_ble_eq_true rfl) ?_
  unfold F_X12_lays at hF
  refine V_aload_n dX12_lays_0 rfl ?_
  refine V_iconst (v := 0) dX12_lays_1 (by decide) ?_
  refine X_pI G dX12_lays_2 gX12_331 ht.1 rfl rfl rfl ?_
  obtain ⟨S1, qS1, hF⟩ := bnd_g hF
  refine V_eqS qS1 ?_
  refine V_iconst (v := 0) dX12_lays_5 (by decide) ?_
  refine V_istore dX12_lays_6 (by decide) ?_
  exact V_lv' (w_X12_lays_L8 ht hp1 hp2 G hd f _ _ hF) (v_all_c rfl (v_all_c rfl (v_all_c rfl (v_all_c rfl (v_all_c rfl v_all_n)))))
set_option maxRecDepth 100000 in
set_option maxHeartbeats 4000000 in
theorem w_X12_takes_L2 {l : Launch} {s0 : State} {D : va_G} {a0 : Array Value} {sh : List Sh} {f : Nat} {t : Nat} {p1 : Int64} (ht : isX12 sh t) {r : St} {d : Nat} (G : GC l s0 D a0) (hd : 1 ≤ d + 1) : ∀ (n : Nat) (S : St) (l3 : Int32), F_X12_takes_L2 sh f t p1 n S l3 = some r → V l s0 D (d + 1) 0 0 mX12_takes (fun v h => v = none ∧ h = wd s0.heap.size sh r) v_noX 2 [(0, .ref (s0.heap.size + t)), (1, .long p1), (3, .int l3)] [] (wd s0.heap.size sh S) := by
  intro n
  induction n with
  | zero => intro S l3 hF; cases hF
  | succ n ih =>
    intro S l3 hF
    unfold F_X12_takes_L2 at hF
    refine V_iload_n dX12_takes_2 rfl ?_
    refine V_aload_n dX12_takes_3 rfl ?_
    refine X_gI G dX12_takes_4 fX12_331 ht.1 rfl ?_
    refine V_icmp_ge (tgt := 35) dX12_takes_7 (by decide) (fun c => ?_) (fun c => ?_)
    · replace hF := (if_pos c).symm.trans hF
      cases hF
      exact V_return dX12_takes_35 rfl ⟨rfl, rfl⟩
    · replace hF := (if_neg c).symm.trans hF
      refine V_aload_n dX12_takes_10 rfl ?_
      refine X_gC G dX12_takes_11 fX12_63 ht.1 rfl ?_
      refine V_iload_n dX12_takes_14 rfl ?_
      refine V_lload_n dX12_takes_15 rfl ?_
      refine V_iconst (v := 4) dX12_takes_16 (by decide) ?_
      refine V_bipush (v := 11) dX12_takes_17 (by decide) ?_
      refine V_iload_n dX12_takes_19 rfl ?_
      refine V_isub dX12_takes_20 ?_
      refine V_imul dX12_takes_21 ?_
      refine V_lshr dX12_takes_22 ?_
      refine V_ldc2 dX12_takes_23 qX12_345 ?_
      refine V_land dX12_takes_26 ?_
      refine V_l2i dX12_takes_27 ?_
      obtain ⟨hz, hF⟩ := gv_out hF
      refine X_iast dX12_takes_28 ht.2.2.2.2.2.2.2.2.2.2.2.1 hz ?_
      obtain ⟨S1, qS1, hF⟩ := bnd_g hF
      refine V_eqS qS1 ?_
      obtain ⟨x2, qx2, hF⟩ := bnd_g hF
      refine B_iinc (v := 1) qx2 dX12_takes_29 rfl (by decide) (by decide) ?_
      refine V_goto (tgt := 2) dX12_takes_32 (by decide) ?_
      exact V_lv' (ih _ _ hF) (v_all_c rfl (v_all_c rfl (v_all_c rfl v_all_n)))
set_option maxRecDepth 100000 in
set_option maxHeartbeats 4000000 in
theorem s_X12_takes {l : Launch} {s0 : State} {D : va_G} {a0 : Array Value} {sh : List Sh} {f : Nat} {S : St} {t : Nat} {p1 : Int64} (ht : isX12 sh t) {r : St} (G : GC l s0 D a0) (hF : F_X12_takes sh f S t p1 = some r) {d : Nat} (hd : 1 ≤ d) : Sp l s0 D d 0 0 mX12_takes (fun v h => v = none ∧ h = wd s0.heap.size sh r) v_noX [.ref (s0.heap.size + t), .long p1] (wd s0.heap.size sh S) := by
  obtain ⟨d, rfl⟩ : ∃ e, d = e + 1 := ⟨d - 1, by omega⟩
  refine Sp.of (by decide +kernel) rfl (Nat.le_of_ble_eq_true rfl) ?_
  unfold F_X12_takes at hF
  refine V_iconst (v := 0) dX12_takes_0 (by decide) ?_
  refine V_istore_n dX12_takes_1 (by decide) ?_
  exact V_lv' (w_X12_takes_L2 ht G hd f _ _ hF) (v_all_c rfl (v_all_c rfl (v_all_c rfl v_all_n)))
set_option maxRecDepth 100000 in
set_option maxHeartbeats 4000000 in
theorem w_X12_rowHere_L4 {l : Launch} {s0 : State} {D : va_G} {a0 : Array Value} {sh : List Sh} {f : Nat} {S : St} {t : Nat} (ht : isX12 sh t) {r : Int64} {d : Nat} (G : GC l s0 D a0) (hd : 1 ≤ d + 1) : ∀ (n : Nat) (l1 : Int64) (l3 : Int32), F_X12_rowHere_L4 sh f S t n l1 l3 = some r → V l s0 D (d + 1) 0 0 mX12_rowHere (fun v h => v = some (.long r) ∧ h = wd s0.heap.size sh S) v_noX 4 [(0, .ref (s0.heap.size + t)), (1, .long l1), (3, .int l3)] [] (wd s0.heap.size sh S) := by
  intro n
  induction n with
  | zero => intro l1 l3 hF; cases hF
  | succ n ih =>
    intro l1 l3 hF
    unfold F_X12_rowHere_L4 at hF
    refine V_iload_n dX12_rowHere_4 rfl ?_
    refine V_aload_n dX12_rowHere_5 rfl ?_
    refine X_gI G dX12_rowHere_6 fX12_331 ht.1 rfl ?_
    refine V_icmp_ge (tgt := 35) dX12_rowHere_9 (by decide) (fun c => ?_) (fun c => ?_)
    · replace hF := (if_pos c).symm.trans hF
      refine V_lload_n dX12_rowHere_35 rfl ?_
      cases hF
      exact V_lreturn dX12_rowHere_36 rfl ⟨rfl, rfl⟩
    · replace hF := (if_neg c).symm.trans hF
      refine V_lload_n dX12_rowHere_12 rfl ?_
      refine V_aload_n dX12_rowHere_13 rfl ?_
      refine X_gC G dX12_rowHere_14 fX12_63 ht.1 rfl ?_
      refine V_iload_n dX12_rowHere_17 rfl ?_
      obtain ⟨hz, hF⟩ := gv_out hF
      refine X_iald dX12_rowHere_18 ht.2.2.2.2.2.2.2.2.2.2.2.1 hz ?_
      refine V_i2l dX12_rowHere_19 ?_
      refine V_iconst (v := 4) dX12_rowHere_20 (by decide) ?_
      refine V_bipush (v := 11) dX12_rowHere_21 (by decide) ?_
      refine V_iload_n dX12_rowHere_23 rfl ?_
      refine V_isub dX12_rowHere_24 ?_
      refine V_imul dX12_rowHere_25 ?_
      refine V_lshl dX12_rowHere_26 ?_
      refine V_lor dX12_rowHere_27 ?_
      obtain ⟨x1, qx1, hF⟩ := bnd_g hF
      refine B_lstore_n qx1 dX12_rowHere_28 (by decide) ?_
      obtain ⟨x2, qx2, hF⟩ := bnd_g hF
      refine B_iinc (v := 1) qx2 dX12_rowHere_29 rfl (by decide) (by decide) ?_
      refine V_goto (tgt := 4) dX12_rowHere_32 (by decide) ?_
      exact V_lv' (ih _ _ hF) (v_all_c rfl (v_all_c rfl (v_all_c rfl v_all_n)))
set_option maxRecDepth 100000 in
set_option maxHeartbeats 4000000 in
theorem s_X12_rowHere {l : Launch} {s0 : State} {D : va_G} {a0 : Array Value} {sh : List Sh} {f : Nat} {S : St} {t : Nat} (ht : isX12 sh t) {r : Int64} (G : GC l s0 D a0) (hF : F_X12_rowHere sh f S t = some r) {d : Nat} (hd : 1 ≤ d) : Sp l s0 D d 0 0 mX12_rowHere (fun v h => v = some (.long r) ∧ h = wd s0.heap.size sh S) v_noX [.ref (s0.heap.size + t)] (wd s0.heap.size sh S) := by
  obtain ⟨d, rfl⟩ : ∃ e, d = e + 1 := ⟨d - 1, by omega⟩
  refine Sp.of (by decide +kernel) rfl (Nat.le_of_ble_eq_true rfl) ?_
  unfold F_X12_rowHere at hF
  refine V_lconst (v := 0) dX12_rowHere_0 (by decide) ?_
  refine V_lstore_n dX12_rowHere_1 (by decide) ?_
  refine V_iconst (v := 0) dX12_rowHere_2 (by decide) ?_
  refine V_istore_n dX12_rowHere_3 (by decide) ?_
  exact V_lv' (w_X12_rowHere_L4 ht G hd f _ _ hF) (v_all_c rfl (v_all_c rfl (v_all_c rfl v_all_n)))
set_option maxRecDepth 100000 in
set_option maxHeartbeats 4000000 in
theorem w_X12_sets_L33 {l : Launch} {s0 : State} {D : va_G} {a0 : Array Value} {sh : List Sh} {f : Nat} {t : Nat} {p1 : Int32} (ht : isX12 sh t) {r : Int32 × St} {d : Nat} (G : GC l s0 D a0) (hd : 2 ≤ d + 1) {k25 : St → Int32 → Option (Int32 × St)} (hk25 : ∀ (S : St) (l2 : Int32), k25 S l2 = some r → V l s0 D (d + 1) 0 0 mX12_sets (fun v h => v = some (.int r.1) ∧ h = wd s0.heap.size sh r.2) v_noX 25 [(0, .ref (s0.heap.size + t)), (1, .int p1), (2, .int l2)] [] (wd s0.heap.size sh S)) : ∀ (n : Nat) (S : St) (l2 : Int32) (l3 : Int32), F_X12_sets_L33 sh f t p1 k25 n S l2 l3 = some r → V l s0 D (d + 1) 0 0 mX12_sets (fun v h => v = some (.int r.1) ∧ h = wd s0.heap.size sh r.2) v_noX 33 [(0, .ref (s0.heap.size + t)), (1, .int p1), (2, .int l2), (3, .int l3)] [] (wd s0.heap.size sh S) := by
  intro n
  induction n with
  | zero => intro S l2 l3 hF; cases hF
  | succ n ih =>
    intro S l2 l3 hF
    unfold F_X12_sets_L33 at hF
    refine V_iload_n dX12_sets_33 rfl ?_
    refine V_aload_n dX12_sets_34 rfl ?_
    refine X_gI G dX12_sets_35 fX12_331 ht.1 rfl ?_
    refine V_icmp_ge (tgt := 149) dX12_sets_38 (by decide) (fun c => ?_) (fun c => ?_)
    · replace hF := (if_pos c).symm.trans hF
      refine V_goto (tgt := 25) dX12_sets_149 (by decide) ?_
      exact V_lv' (hk25 _ _ hF) (v_all_c rfl (v_all_c rfl (v_all_c rfl v_all_n)))
    · replace hF := (if_neg c).symm.trans hF
      refine V_iload_n dX12_sets_41 rfl ?_
      refine V_iload_n dX12_sets_42 rfl ?_
      refine V_icmp_eq (tgt := 143) dX12_sets_43 (by decide) (fun c => ?_) (fun c => ?_)
      · replace hF := (if_pos c).symm.trans hF
        obtain ⟨x1, qx1, hF⟩ := bnd_g hF
        refine B_iinc (v := 1) qx1 dX12_sets_143 rfl (by decide) (by decide) ?_
        refine V_goto (tgt := 33) dX12_sets_146 (by decide) ?_
        exact V_lv' (ih _ _ _ hF) (v_all_c rfl (v_all_c rfl (v_all_c rfl (v_all_c rfl v_all_n))))
      · replace hF := (if_neg c).symm.trans hF
        refine V_aload_n dX12_sets_46 rfl ?_
        refine X_gC G dX12_sets_47 fX12_63 ht.1 rfl ?_
        refine V_iload_n dX12_sets_50 rfl ?_
        obtain ⟨hz, hF⟩ := gv_out hF
        refine X_iald dX12_sets_51 ht.2.2.2.2.2.2.2.2.2.2.2.1 hz ?_
        refine V_iload_n dX12_sets_52 rfl ?_
        refine V_icmp_ne (tgt := 59) dX12_sets_53 (by decide) (fun c => ?_) (fun c => ?_)
        · replace hF := (if_neg c).symm.trans hF
          refine V_aload_n dX12_sets_59 rfl ?_
          refine X_gC G dX12_sets_60 fX12_69 ht.1 rfl ?_
          refine V_aload_n dX12_sets_63 rfl ?_
          refine X_gC G dX12_sets_64 fX12_60 ht.1 rfl ?_
          refine V_iload_n dX12_sets_67 rfl ?_
          obtain ⟨hz, hF⟩ := gv_out hF
          refine X_iald dX12_sets_68 ht.2.2.2.2.2.2.2.2.2.2.1 hz ?_
          obtain ⟨hz, hF⟩ := gv_out hF
          refine X_iald dX12_sets_69 ht.2.2.2.2.2.2.2.2.2.2.2.2.2.1 hz ?_
          obtain ⟨x2, qx2, hF⟩ := bnd_g hF
          refine B_istore qx2 dX12_sets_70 (by decide) ?_
          refine V_aload_n dX12_sets_72 rfl ?_
          refine X_gC G dX12_sets_73 fX12_69 ht.1 rfl ?_
          refine V_aload_n dX12_sets_76 rfl ?_
          refine X_gC G dX12_sets_77 fX12_60 ht.1 rfl ?_
          refine V_aload_n dX12_sets_80 rfl ?_
          refine X_gC G dX12_sets_81 fX12_63 ht.1 rfl ?_
          refine V_iload_n dX12_sets_84 rfl ?_
          obtain ⟨hz, hF⟩ := gv_out hF
          refine X_iald dX12_sets_85 ht.2.2.2.2.2.2.2.2.2.2.2.1 hz ?_
          obtain ⟨hz, hF⟩ := gv_out hF
          refine X_iald dX12_sets_86 ht.2.2.2.2.2.2.2.2.2.2.1 hz ?_
          obtain ⟨hz, hF⟩ := gv_out hF
          refine X_iald dX12_sets_87 ht.2.2.2.2.2.2.2.2.2.2.2.2.2.1 hz ?_
          obtain ⟨x3, qx3, hF⟩ := bnd_g hF
          refine B_istore qx3 dX12_sets_88 (by decide) ?_
          refine V_iload dX12_sets_90 rfl ?_
          refine V_iload dX12_sets_92 rfl ?_
          refine V_icmp_ne (tgt := 100) dX12_sets_94 (by decide) (fun c => ?_) (fun c => ?_)
          · replace hF := (if_neg c).symm.trans hF
            refine V_aload_n dX12_sets_100 rfl ?_
            refine X_gC G dX12_sets_101 fX12_69 ht.1 rfl ?_
            refine V_aload_n dX12_sets_104 rfl ?_
            refine X_gC G dX12_sets_105 fX12_60 ht.1 rfl ?_
            refine V_iload_n dX12_sets_108 rfl ?_
            obtain ⟨hz, hF⟩ := gv_out hF
            refine X_iald dX12_sets_109 ht.2.2.2.2.2.2.2.2.2.2.1 hz ?_
            refine V_iload dX12_sets_110 rfl ?_
            refine V_iload dX12_sets_112 rfl ?_
            obtain ⟨y4, hc, hF⟩ := bd hF
            refine V_callS dX12_sets_114 kX12_347 (s_J9_min_7cf53 G hc (by omega)) rfl (Nat.le_of_ble_eq_true rfl) (fun _ _ _ q => q.elim) ?_
            rintro _ _ ⟨rfl, rfl⟩
            obtain ⟨hz, hF⟩ := gv_out hF
            refine X_iast dX12_sets_117 ht.2.2.2.2.2.2.2.2.2.2.2.2.2.1 hz ?_
            obtain ⟨S5, qS5, hF⟩ := bnd_g hF
            refine V_eqS qS5 ?_
            refine V_aload_n dX12_sets_118 rfl ?_
            refine X_gC G dX12_sets_119 fX12_69 ht.1 rfl ?_
            refine V_aload_n dX12_sets_122 rfl ?_
            refine X_gC G dX12_sets_123 fX12_60 ht.1 rfl ?_
            refine V_aload_n dX12_sets_126 rfl ?_
            refine X_gC G dX12_sets_127 fX12_63 ht.1 rfl ?_
            refine V_iload_n dX12_sets_130 rfl ?_
            obtain ⟨hz, hF⟩ := gv_out hF
            refine X_iald dX12_sets_131 ht.2.2.2.2.2.2.2.2.2.2.2.1 hz ?_
            obtain ⟨hz, hF⟩ := gv_out hF
            refine X_iald dX12_sets_132 ht.2.2.2.2.2.2.2.2.2.2.1 hz ?_
            refine V_iload dX12_sets_133 rfl ?_
            refine V_iload dX12_sets_135 rfl ?_
            obtain ⟨y6, hc, hF⟩ := bd hF
            refine V_callS dX12_sets_137 kX12_347 (s_J9_min_7cf53 G hc (by omega)) rfl (Nat.le_of_ble_eq_true rfl) (fun _ _ _ q => q.elim) ?_
            rintro _ _ ⟨rfl, rfl⟩
            obtain ⟨hz, hF⟩ := gv_out hF
            refine X_iast dX12_sets_140 ht.2.2.2.2.2.2.2.2.2.2.2.2.2.1 hz ?_
            obtain ⟨S7, qS7, hF⟩ := bnd_g hF
            refine V_eqS qS7 ?_
            refine V_iconst (v := 1) dX12_sets_141 (by decide) ?_
            refine V_istore_n dX12_sets_142 (by decide) ?_
            obtain ⟨x8, qx8, hF⟩ := bnd_g hF
            refine B_iinc (v := 1) qx8 dX12_sets_143 rfl (by decide) (by decide) ?_
            refine V_goto (tgt := 33) dX12_sets_146 (by decide) ?_
            exact V_lv' (ih _ _ _ hF) (v_all_c rfl (v_all_c rfl (v_all_c rfl (v_all_c rfl v_all_n))))
          · replace hF := (if_pos c).symm.trans hF
            refine V_goto (tgt := 143) dX12_sets_97 (by decide) ?_
            obtain ⟨x9, qx9, hF⟩ := bnd_g hF
            refine B_iinc (v := 1) qx9 dX12_sets_143 rfl (by decide) (by decide) ?_
            refine V_goto (tgt := 33) dX12_sets_146 (by decide) ?_
            exact V_lv' (ih _ _ _ hF) (v_all_c rfl (v_all_c rfl (v_all_c rfl (v_all_c rfl v_all_n))))
        · replace hF := (if_pos c).symm.trans hF
          refine V_goto (tgt := 143) dX12_sets_56 (by decide) ?_
          obtain ⟨x10, qx10, hF⟩ := bnd_g hF
          refine B_iinc (v := 1) qx10 dX12_sets_143 rfl (by decide) (by decide) ?_
          refine V_goto (tgt := 33) dX12_sets_146 (by decide) ?_
          exact V_lv' (ih _ _ _ hF) (v_all_c rfl (v_all_c rfl (v_all_c rfl (v_all_c rfl v_all_n))))
set_option maxRecDepth 100000 in
set_option maxHeartbeats 4000000 in
theorem w_X12_sets_L157 {l : Launch} {s0 : State} {D : va_G} {a0 : Array Value} {sh : List Sh} {f : Nat} {t : Nat} {p1 : Int32} (ht : isX12 sh t) {r : Int32 × St} {d : Nat} (G : GC l s0 D a0) (hd : 2 ≤ d + 1) : ∀ (n : Nat) (S : St) (l3 : Int32) (l4 : Int32), F_X12_sets_L157 sh f t p1 n S l3 l4 = some r → V l s0 D (d + 1) 0 0 mX12_sets (fun v h => v = some (.int r.1) ∧ h = wd s0.heap.size sh r.2) v_noX 157 [(0, .ref (s0.heap.size + t)), (3, .int l3), (4, .int l4)] [] (wd s0.heap.size sh S) := by
  intro n
  induction n with
  | zero => intro S l3 l4 hF; cases hF
  | succ n ih =>
    intro S l3 l4 hF
    unfold F_X12_sets_L157 at hF
    refine V_iload dX12_sets_157 rfl ?_
    refine V_aload_n dX12_sets_159 rfl ?_
    refine X_gI G dX12_sets_160 fX12_342 ht.1 rfl ?_
    refine V_icmp_ge (tgt := 192) dX12_sets_163 (by decide) (fun c => ?_) (fun c => ?_)
    · replace hF := (if_pos c).symm.trans hF
      refine V_iload_n dX12_sets_192 rfl ?_
      cases hF
      exact V_ireturn dX12_sets_193 rfl rfl ⟨rfl, rfl⟩
    · replace hF := (if_neg c).symm.trans hF
      refine V_iload_n dX12_sets_166 rfl ?_
      refine V_aload_n dX12_sets_167 rfl ?_
      refine X_gC G dX12_sets_168 fX12_69 ht.1 rfl ?_
      refine V_iload dX12_sets_171 rfl ?_
      obtain ⟨hz, hF⟩ := gv_out hF
      refine X_iald dX12_sets_173 ht.2.2.2.2.2.2.2.2.2.2.2.2.2.1 hz ?_
      refine V_iload dX12_sets_174 rfl ?_
      refine V_icmp_ne (tgt := 183) dX12_sets_176 (by decide) (fun c => ?_) (fun c => ?_)
      · replace hF := (if_neg c).symm.trans hF
        refine V_iconst (v := 0) dX12_sets_183 (by decide) ?_
        refine V_iadd dX12_sets_184 ?_
        obtain ⟨x1, qx1, hF⟩ := bnd_g hF
        refine B_istore_n qx1 dX12_sets_185 (by decide) ?_
        obtain ⟨x2, qx2, hF⟩ := bnd_g hF
        refine B_iinc (v := 1) qx2 dX12_sets_186 rfl (by decide) (by decide) ?_
        refine V_goto (tgt := 157) dX12_sets_189 (by decide) ?_
        exact V_lv' (ih _ _ _ hF) (v_all_c rfl (v_all_c rfl (v_all_c rfl v_all_n)))
      · replace hF := (if_pos c).symm.trans hF
        refine V_iconst (v := 1) dX12_sets_179 (by decide) ?_
        refine V_goto (tgt := 184) dX12_sets_180 (by decide) ?_
        refine V_iadd dX12_sets_184 ?_
        obtain ⟨x3, qx3, hF⟩ := bnd_g hF
        refine B_istore_n qx3 dX12_sets_185 (by decide) ?_
        obtain ⟨x4, qx4, hF⟩ := bnd_g hF
        refine B_iinc (v := 1) qx4 dX12_sets_186 rfl (by decide) (by decide) ?_
        refine V_goto (tgt := 157) dX12_sets_189 (by decide) ?_
        exact V_lv' (ih _ _ _ hF) (v_all_c rfl (v_all_c rfl (v_all_c rfl v_all_n)))
set_option maxRecDepth 100000 in
set_option maxHeartbeats 4000000 in
theorem w_X12_sets_L25 {l : Launch} {s0 : State} {D : va_G} {a0 : Array Value} {sh : List Sh} {f : Nat} {t : Nat} {p1 : Int32} (ht : isX12 sh t) {r : Int32 × St} {d : Nat} (G : GC l s0 D a0) (hd : 2 ≤ d + 1) : ∀ (n : Nat) (S : St) (l2 : Int32), F_X12_sets_L25 sh f t p1 n S l2 = some r → V l s0 D (d + 1) 0 0 mX12_sets (fun v h => v = some (.int r.1) ∧ h = wd s0.heap.size sh r.2) v_noX 25 [(0, .ref (s0.heap.size + t)), (1, .int p1), (2, .int l2)] [] (wd s0.heap.size sh S) := by
  intro n
  induction n with
  | zero => intro S l2 hF; cases hF
  | succ n ih =>
    intro S l2 hF
    unfold F_X12_sets_L25 at hF
    refine V_iload_n dX12_sets_25 rfl ?_
    refine V_if_eq (tgt := 152) dX12_sets_26 (by decide) (fun c => ?_) (fun c => ?_)
    · replace hF := (if_pos c).symm.trans hF
      refine V_iconst (v := 0) dX12_sets_152 (by decide) ?_
      refine V_istore_n dX12_sets_153 (by decide) ?_
      refine V_iconst (v := 0) dX12_sets_154 (by decide) ?_
      refine V_istore dX12_sets_155 (by decide) ?_
      exact V_lv' (w_X12_sets_L157 ht G hd f _ _ _ hF) (v_all_c rfl (v_all_c rfl (v_all_c rfl v_all_n)))
    · replace hF := (if_neg c).symm.trans hF
      refine V_iconst (v := 0) dX12_sets_29 (by decide) ?_
      refine V_istore_n dX12_sets_30 (by decide) ?_
      refine V_iconst (v := 0) dX12_sets_31 (by decide) ?_
      refine V_istore_n dX12_sets_32 (by decide) ?_
      exact V_lv' (w_X12_sets_L33 ht G hd ih f _ _ _ hF) (v_all_c rfl (v_all_c rfl (v_all_c rfl (v_all_c rfl v_all_n))))
set_option maxRecDepth 100000 in
set_option maxHeartbeats 4000000 in
theorem w_X12_sets_L2 {l : Launch} {s0 : State} {D : va_G} {a0 : Array Value} {sh : List Sh} {f : Nat} {t : Nat} {p1 : Int32} (ht : isX12 sh t) {r : Int32 × St} {d : Nat} (G : GC l s0 D a0) (hd : 2 ≤ d + 1) : ∀ (n : Nat) (S : St) (l2 : Int32), F_X12_sets_L2 sh f t p1 n S l2 = some r → V l s0 D (d + 1) 0 0 mX12_sets (fun v h => v = some (.int r.1) ∧ h = wd s0.heap.size sh r.2) v_noX 2 [(0, .ref (s0.heap.size + t)), (1, .int p1), (2, .int l2)] [] (wd s0.heap.size sh S) := by
  intro n
  induction n with
  | zero => intro S l2 hF; cases hF
  | succ n ih =>
    intro S l2 hF
    unfold F_X12_sets_L2 at hF
    refine V_iload_n dX12_sets_2 rfl ?_
    refine V_aload_n dX12_sets_3 rfl ?_
    refine X_gI G dX12_sets_4 fX12_342 ht.1 rfl ?_
    refine V_icmp_ge (tgt := 23) dX12_sets_7 (by decide) (fun c => ?_) (fun c => ?_)
    · replace hF := (if_pos c).symm.trans hF
      refine V_iconst (v := 1) dX12_sets_23 (by decide) ?_
      refine V_istore_n dX12_sets_24 (by decide) ?_
      exact V_lv' (w_X12_sets_L25 ht G hd f _ _ hF) (v_all_c rfl (v_all_c rfl (v_all_c rfl v_all_n)))
    · replace hF := (if_neg c).symm.trans hF
      refine V_aload_n dX12_sets_10 rfl ?_
      refine X_gC G dX12_sets_11 fX12_69 ht.1 rfl ?_
      refine V_iload_n dX12_sets_14 rfl ?_
      refine V_iload_n dX12_sets_15 rfl ?_
      obtain ⟨hz, hF⟩ := gv_out hF
      refine X_iast dX12_sets_16 ht.2.2.2.2.2.2.2.2.2.2.2.2.2.1 hz ?_
      obtain ⟨S1, qS1, hF⟩ := bnd_g hF
      refine V_eqS qS1 ?_
      obtain ⟨x2, qx2, hF⟩ := bnd_g hF
      refine B_iinc (v := 1) qx2 dX12_sets_17 rfl (by decide) (by decide) ?_
      refine V_goto (tgt := 2) dX12_sets_20 (by decide) ?_
      exact V_lv' (ih _ _ hF) (v_all_c rfl (v_all_c rfl (v_all_c rfl v_all_n)))
set_option maxRecDepth 100000 in
set_option maxHeartbeats 4000000 in
theorem s_X12_sets {l : Launch} {s0 : State} {D : va_G} {a0 : Array Value} {sh : List Sh} {f : Nat} {S : St} {t : Nat} {p1 : Int32} (ht : isX12 sh t) {r : Int32 × St} (G : GC l s0 D a0) (hF : F_X12_sets sh f S t p1 = some r) {d : Nat} (hd : 2 ≤ d) : Sp l s0 D d 0 0 mX12_sets (fun v h => v = some (.int r.1) ∧ h = wd s0.heap.size sh r.2) v_noX [.ref (s0.heap.size + t), .int p1] (wd s0.heap.size sh S) := by
  obtain ⟨d, rfl⟩ : ∃ e, d = e + 1 := ⟨d - 1, by omega⟩
  refine Sp.of (by decide +kernel) rfl (Nat.le_of_ble_eq_true rfl) ?_
  unfold F_X12_sets at hF
  refine V_iconst (v := 0) dX12_sets_0 (by decide) ?_
  refine V_istore_n dX12_sets_1 (by decide) ?_
  exact V_lv' (w_X12_sets_L2 ht G hd f _ _ hF) (v_all_c rfl (v_all_c rfl (v_all_c rfl v_all_n)))
set_option maxRecDepth 100000 in
set_option maxHeartbeats 4000000 in
theorem w_X12_pairsFrom_L83 {l : Launch} {s0 : State} {D : va_G} {a0 : Array Value} {sh : List Sh} {f : Nat} {t : Nat} {p1 : Int32} (ht : isX12 sh t) {r : St} {d : Nat} (G : GC l s0 D a0) (hd : 3 ≤ d + 1) {kR : St → Nat → Int32 → Option (St)} (hkR : ∀ (S : St) (t : Nat) (p1 : Int32) (r : St), isX12 sh t → kR S t p1 = some r → Sp l s0 D d 0 0 mX12_pairsFrom (fun v h => v = none ∧ h = wd s0.heap.size sh r) v_noX [.ref (s0.heap.size + t), .int p1] (wd s0.heap.size sh S)) : ∀ (n : Nat) (S : St) (l2 : Int32) (l3 : Int32), F_X12_pairsFrom_L83 sh f t p1 kR n S l2 l3 = some r → V l s0 D (d + 1) 0 0 mX12_pairsFrom (fun v h => v = none ∧ h = wd s0.heap.size sh r) v_noX 83 [(0, .ref (s0.heap.size + t)), (2, .int l2), (3, .int l3)] [] (wd s0.heap.size sh S) := by
  intro n
  induction n with
  | zero => intro S l2 l3 hF; cases hF
  | succ n ih =>
    intro S l2 l3 hF
    unfold F_X12_pairsFrom_L83 at hF
    refine V_iload_n dX12_pairsFrom_83 rfl ?_
    refine V_aload_n dX12_pairsFrom_84 rfl ?_
    refine X_gI G dX12_pairsFrom_85 fX12_331 ht.1 rfl ?_
    refine V_icmp_ge (tgt := 168) dX12_pairsFrom_88 (by decide) (fun c => ?_) (fun c => ?_)
    · replace hF := (if_pos c).symm.trans hF
      cases hF
      exact V_return dX12_pairsFrom_168 rfl ⟨rfl, rfl⟩
    · replace hF := (if_neg c).symm.trans hF
      refine V_aload_n dX12_pairsFrom_91 rfl ?_
      refine X_gC G dX12_pairsFrom_92 fX12_63 ht.1 rfl ?_
      refine V_iload_n dX12_pairsFrom_95 rfl ?_
      obtain ⟨hz, hF⟩ := gv_out hF
      refine X_iald dX12_pairsFrom_96 ht.2.2.2.2.2.2.2.2.2.2.2.1 hz ?_
      refine V_iconst (v := -1) dX12_pairsFrom_97 (by decide) ?_
      refine V_icmp_ne (tgt := 162) dX12_pairsFrom_98 (by decide) (fun c => ?_) (fun c => ?_)
      · replace hF := (if_neg c).symm.trans hF
        obtain ⟨x1, qx1, hF⟩ := bnd_g hF
        refine B_iinc (v := 1) qx1 dX12_pairsFrom_162 rfl (by decide) (by decide) ?_
        refine V_goto (tgt := 83) dX12_pairsFrom_165 (by decide) ?_
        exact V_lv' (ih _ _ _ hF) (v_all_c rfl (v_all_c rfl (v_all_c rfl v_all_n)))
      · replace hF := (if_pos c).symm.trans hF
        refine V_aload_n dX12_pairsFrom_101 rfl ?_
        obtain ⟨b2, hrb2, hF⟩ := bd hF
        obtain ⟨hb2, hF⟩ := gv_in hF
        replace hb2 := ckX9_ok hb2
        refine X_gR G dX12_pairsFrom_102 fX12_312 ht.1 rfl hrb2 ?_
        refine X_gC G dX12_pairsFrom_105 fX12_257 hb2.1 rfl ?_
        refine V_aload_n dX12_pairsFrom_108 rfl ?_
        refine X_gC G dX12_pairsFrom_109 fX12_57 ht.1 rfl ?_
        refine V_iload_n dX12_pairsFrom_112 rfl ?_
        obtain ⟨hz, hF⟩ := gv_out hF
        refine X_iald dX12_pairsFrom_113 ht.2.2.2.2.2.2.2.2.2.1 hz ?_
        obtain ⟨hz, hF⟩ := gv_out hF
        refine X_iald dX12_pairsFrom_114 hb2.2.2.1 hz ?_
        refine V_aload_n dX12_pairsFrom_115 rfl ?_
        refine X_gC G dX12_pairsFrom_116 fX12_57 ht.1 rfl ?_
        refine V_iload_n dX12_pairsFrom_119 rfl ?_
        obtain ⟨hz, hF⟩ := gv_out hF
        refine X_iald dX12_pairsFrom_120 ht.2.2.2.2.2.2.2.2.2.1 hz ?_
        refine V_icmp_eq (tgt := 127) dX12_pairsFrom_121 (by decide) (fun c => ?_) (fun c => ?_)
        · replace hF := (if_pos c).symm.trans hF
          refine V_aload_n dX12_pairsFrom_127 rfl ?_
          refine X_gC G dX12_pairsFrom_128 fX12_63 ht.1 rfl ?_
          refine V_iload_n dX12_pairsFrom_131 rfl ?_
          refine V_iload_n dX12_pairsFrom_132 rfl ?_
          obtain ⟨hz, hF⟩ := gv_out hF
          refine X_iast dX12_pairsFrom_133 ht.2.2.2.2.2.2.2.2.2.2.2.1 hz ?_
          obtain ⟨S3, qS3, hF⟩ := bnd_g hF
          refine V_eqS qS3 ?_
          refine V_aload_n dX12_pairsFrom_134 rfl ?_
          refine X_gC G dX12_pairsFrom_135 fX12_63 ht.1 rfl ?_
          refine V_iload_n dX12_pairsFrom_138 rfl ?_
          refine V_iload_n dX12_pairsFrom_139 rfl ?_
          obtain ⟨hz, hF⟩ := gv_out hF
          refine X_iast dX12_pairsFrom_140 ht.2.2.2.2.2.2.2.2.2.2.2.1 hz ?_
          obtain ⟨S4, qS4, hF⟩ := bnd_g hF
          refine V_eqS qS4 ?_
          refine V_aload_n dX12_pairsFrom_141 rfl ?_
          refine V_iload_n dX12_pairsFrom_142 rfl ?_
          refine V_iconst (v := 1) dX12_pairsFrom_143 (by decide) ?_
          refine V_iadd dX12_pairsFrom_144 ?_
          obtain ⟨y5, hc, hF⟩ := bd hF
          refine V_callV G dX12_pairsFrom_145 kX12_356 (wd_at ht.1) ⟨by decide, rfl⟩ (hkR _ _ _ _ ht hc) rfl (Nat.le_of_ble_eq_true rfl) (fun _ _ _ q => q.elim) ?_
          rintro _ _ ⟨rfl, rfl⟩
          refine V_aload_n dX12_pairsFrom_148 rfl ?_
          refine X_gC G dX12_pairsFrom_149 fX12_63 ht.1 rfl ?_
          refine V_iload_n dX12_pairsFrom_152 rfl ?_
          refine V_iconst (v := -1) dX12_pairsFrom_153 (by decide) ?_
          obtain ⟨hz, hF⟩ := gv_out hF
          refine X_iast dX12_pairsFrom_154 ht.2.2.2.2.2.2.2.2.2.2.2.1 hz ?_
          obtain ⟨S6, qS6, hF⟩ := bnd_g hF
          refine V_eqS qS6 ?_
          refine V_aload_n dX12_pairsFrom_155 rfl ?_
          refine X_gC G dX12_pairsFrom_156 fX12_63 ht.1 rfl ?_
          refine V_iload_n dX12_pairsFrom_159 rfl ?_
          refine V_iconst (v := -1) dX12_pairsFrom_160 (by decide) ?_
          obtain ⟨hz, hF⟩ := gv_out hF
          refine X_iast dX12_pairsFrom_161 ht.2.2.2.2.2.2.2.2.2.2.2.1 hz ?_
          obtain ⟨S7, qS7, hF⟩ := bnd_g hF
          refine V_eqS qS7 ?_
          obtain ⟨x8, qx8, hF⟩ := bnd_g hF
          refine B_iinc (v := 1) qx8 dX12_pairsFrom_162 rfl (by decide) (by decide) ?_
          refine V_goto (tgt := 83) dX12_pairsFrom_165 (by decide) ?_
          exact V_lv' (ih _ _ _ hF) (v_all_c rfl (v_all_c rfl (v_all_c rfl v_all_n)))
        · replace hF := (if_neg c).symm.trans hF
          refine V_goto (tgt := 162) dX12_pairsFrom_124 (by decide) ?_
          obtain ⟨x9, qx9, hF⟩ := bnd_g hF
          refine B_iinc (v := 1) qx9 dX12_pairsFrom_162 rfl (by decide) (by decide) ?_
          refine V_goto (tgt := 83) dX12_pairsFrom_165 (by decide) ?_
          exact V_lv' (ih _ _ _ hF) (v_all_c rfl (v_all_c rfl (v_all_c rfl v_all_n)))
set_option maxRecDepth 100000 in
set_option maxHeartbeats 4000000 in
theorem w_X12_pairsFrom_L26 {l : Launch} {s0 : State} {D : va_G} {a0 : Array Value} {sh : List Sh} {f : Nat} {t : Nat} {p1 : Int32} (ht : isX12 sh t) {r : St} {d : Nat} (G : GC l s0 D a0) (hd : 3 ≤ d + 1) {kR : St → Nat → Int32 → Option (St)} (hkR : ∀ (S : St) (t : Nat) (p1 : Int32) (r : St), isX12 sh t → kR S t p1 = some r → Sp l s0 D d 0 0 mX12_pairsFrom (fun v h => v = none ∧ h = wd s0.heap.size sh r) v_noX [.ref (s0.heap.size + t), .int p1] (wd s0.heap.size sh S)) : ∀ (S : St) (l2 : Int32), F_X12_pairsFrom_L26 sh f t p1 kR S l2 = some r → V l s0 D (d + 1) 0 0 mX12_pairsFrom (fun v h => v = none ∧ h = wd s0.heap.size sh r) v_noX 26 [(0, .ref (s0.heap.size + t)), (2, .int l2)] [] (wd s0.heap.size sh S) := by
  intro S l2 hF
  unfold F_X12_pairsFrom_L26 at hF
  refine V_iload_n dX12_pairsFrom_26 rfl ?_
  refine V_aload_n dX12_pairsFrom_27 rfl ?_
  refine X_gI G dX12_pairsFrom_28 fX12_331 ht.1 rfl ?_
  refine V_icmp_ne (tgt := 79) dX12_pairsFrom_31 (by decide) (fun c => ?_) (fun c => ?_)
  · replace hF := (if_neg c).symm.trans hF
    refine V_iload_n dX12_pairsFrom_79 rfl ?_
    refine V_iconst (v := 1) dX12_pairsFrom_80 (by decide) ?_
    refine V_iadd dX12_pairsFrom_81 ?_
    obtain ⟨x1, qx1, hF⟩ := bnd_g hF
    refine B_istore_n qx1 dX12_pairsFrom_82 (by decide) ?_
    exact V_lv' (w_X12_pairsFrom_L83 ht G hd hkR f _ _ _ hF) (v_all_c rfl (v_all_c rfl (v_all_c rfl v_all_n)))
  · replace hF := (if_pos c).symm.trans hF
    refine V_aload_n dX12_pairsFrom_34 rfl ?_
    refine V_bipush (v := -2) dX12_pairsFrom_35 (by decide) ?_
    obtain ⟨y2, hc, hF⟩ := bd hF
    refine V_callV G dX12_pairsFrom_37 kX12_359 (wd_at ht.1) ⟨by decide, rfl⟩ (s_X12_sets ht G hc (by omega)) rfl (Nat.le_of_ble_eq_true rfl) (fun _ _ _ q => q.elim) ?_
    rintro _ _ ⟨rfl, rfl⟩
    refine V_iconst (v := 1) dX12_pairsFrom_40 (by decide) ?_
    refine V_icmp_le (tgt := 45) dX12_pairsFrom_41 (by decide) (fun c => ?_) (fun c => ?_)
    · replace hF := (if_pos c).symm.trans hF
      refine V_aload_n dX12_pairsFrom_45 rfl ?_
      refine X_gC G dX12_pairsFrom_46 fX12_72 ht.1 rfl ?_
      refine V_aload_n dX12_pairsFrom_49 rfl ?_
      refine X_gI G dX12_pairsFrom_50 fX12_353 ht.1 rfl ?_
      refine V_aload_n dX12_pairsFrom_53 rfl ?_
      obtain ⟨y3, hc, hF⟩ := bd hF
      refine V_callV G dX12_pairsFrom_54 kX12_362 (wd_at ht.1) ⟨by decide, rfl⟩ (s_X12_rowHere ht G hc (by omega)) rfl (Nat.le_of_ble_eq_true rfl) (fun _ _ _ q => q.elim) ?_
      rintro _ _ ⟨rfl, rfl⟩
      obtain ⟨hz, hF⟩ := gv_out hF
      refine X_last dX12_pairsFrom_57 ht.2.2.2.2.2.2.2.2.2.2.2.2.2.2.1 hz ?_
      obtain ⟨S4, qS4, hF⟩ := bnd_g hF
      refine V_eqS qS4 ?_
      refine V_aload_n dX12_pairsFrom_58 rfl ?_
      refine X_gC G dX12_pairsFrom_59 fX12_76 ht.1 rfl ?_
      refine V_aload_n dX12_pairsFrom_62 rfl ?_
      refine X_gI G dX12_pairsFrom_63 fX12_353 ht.1 rfl ?_
      refine V_iconst (v := -1) dX12_pairsFrom_66 (by decide) ?_
      obtain ⟨hz, hF⟩ := gv_out hF
      refine X_iast dX12_pairsFrom_67 ht.2.2.2.2.2.2.2.2.2.2.2.2.2.2.2.1 hz ?_
      obtain ⟨S5, qS5, hF⟩ := bnd_g hF
      refine V_eqS qS5 ?_
      refine V_aload_n dX12_pairsFrom_68 rfl ?_
      refine V_dup dX12_pairsFrom_69 rfl ?_
      refine X_gI G dX12_pairsFrom_70 fX12_353 ht.1 rfl ?_
      refine V_iconst (v := 1) dX12_pairsFrom_73 (by decide) ?_
      refine V_iadd dX12_pairsFrom_74 ?_
      refine X_pI G dX12_pairsFrom_75 gX12_353 ht.1 rfl rfl rfl ?_
      obtain ⟨S6, qS6, hF⟩ := bnd_g hF
      refine V_eqS qS6 ?_
      cases hF
      exact V_return dX12_pairsFrom_78 rfl ⟨rfl, rfl⟩
    · replace hF := (if_neg c).symm.trans hF
      cases hF
      exact V_return dX12_pairsFrom_44 rfl ⟨rfl, rfl⟩
set_option maxRecDepth 100000 in
set_option maxHeartbeats 4000000 in
theorem w_X12_pairsFrom_L2 {l : Launch} {s0 : State} {D : va_G} {a0 : Array Value} {sh : List Sh} {f : Nat} {t : Nat} {p1 : Int32} (ht : isX12 sh t) {r : St} {d : Nat} (G : GC l s0 D a0) (hd : 3 ≤ d + 1) {kR : St → Nat → Int32 → Option (St)} (hkR : ∀ (S : St) (t : Nat) (p1 : Int32) (r : St), isX12 sh t → kR S t p1 = some r → Sp l s0 D d 0 0 mX12_pairsFrom (fun v h => v = none ∧ h = wd s0.heap.size sh r) v_noX [.ref (s0.heap.size + t), .int p1] (wd s0.heap.size sh S)) : ∀ (n : Nat) (S : St) (l2 : Int32), F_X12_pairsFrom_L2 sh f t p1 kR n S l2 = some r → V l s0 D (d + 1) 0 0 mX12_pairsFrom (fun v h => v = none ∧ h = wd s0.heap.size sh r) v_noX 2 [(0, .ref (s0.heap.size + t)), (2, .int l2)] [] (wd s0.heap.size sh S) := by
  intro n
  induction n with
  | zero => intro S l2 hF; cases hF
  | succ n ih =>
    intro S l2 hF
    unfold F_X12_pairsFrom_L2 at hF
    refine V_iload_n dX12_pairsFrom_2 rfl ?_
    refine V_aload_n dX12_pairsFrom_3 rfl ?_
    refine X_gI G dX12_pairsFrom_4 fX12_331 ht.1 rfl ?_
    refine V_icmp_ge (tgt := 26) dX12_pairsFrom_7 (by decide) (fun c => ?_) (fun c => ?_)
    · replace hF := (if_pos c).symm.trans hF
      exact V_lv' (w_X12_pairsFrom_L26 ht G hd hkR _ _ hF) (v_all_c rfl (v_all_c rfl v_all_n))
    · replace hF := (if_neg c).symm.trans hF
      refine V_aload_n dX12_pairsFrom_10 rfl ?_
      refine X_gC G dX12_pairsFrom_11 fX12_63 ht.1 rfl ?_
      refine V_iload_n dX12_pairsFrom_14 rfl ?_
      obtain ⟨hz, hF⟩ := gv_out hF
      refine X_iald dX12_pairsFrom_15 ht.2.2.2.2.2.2.2.2.2.2.2.1 hz ?_
      refine V_iconst (v := -1) dX12_pairsFrom_16 (by decide) ?_
      refine V_icmp_eq (tgt := 26) dX12_pairsFrom_17 (by decide) (fun c => ?_) (fun c => ?_)
      · replace hF := (if_pos c).symm.trans hF
        exact V_lv' (w_X12_pairsFrom_L26 ht G hd hkR _ _ hF) (v_all_c rfl (v_all_c rfl v_all_n))
      · replace hF := (if_neg c).symm.trans hF
        obtain ⟨x1, qx1, hF⟩ := bnd_g hF
        refine B_iinc (v := 1) qx1 dX12_pairsFrom_20 rfl (by decide) (by decide) ?_
        refine V_goto (tgt := 2) dX12_pairsFrom_23 (by decide) ?_
        exact V_lv' (ih _ _ hF) (v_all_c rfl (v_all_c rfl v_all_n))
set_option maxRecDepth 100000 in
set_option maxHeartbeats 4000000 in
theorem s_X12_pairsFrom {l : Launch} {s0 : State} {D : va_G} {a0 : Array Value} {sh : List Sh} {f : Nat} (G : GC l s0 D a0) : ∀ (e : Nat) (S : St) (t : Nat) (p1 : Int32) (r : St), isX12 sh t → F_X12_pairsFrom sh f e S t p1 = some r → ∀ d : Nat, 3 + e ≤ d + 1 → Sp l s0 D d 0 0 mX12_pairsFrom (fun v h => v = none ∧ h = wd s0.heap.size sh r) v_noX [.ref (s0.heap.size + t), .int p1] (wd s0.heap.size sh S) := by
  intro e
  induction e with
  | zero => intro S t p1 r ht hF d hd; cases hF
  | succ e ih =>
    intro S t p1 r ht hF d hd
    obtain ⟨d, rfl⟩ : ∃ z, d = z + 1 := ⟨d - 1, by omega⟩
    have hkR : ∀ (S : St) (t : Nat) (p1 : Int32) (r : St), isX12 sh t → (F_X12_pairsFrom sh f e) S t p1 = some r → Sp l s0 D d 0 0 mX12_pairsFrom (fun v h => v = none ∧ h = wd s0.heap.size sh r) v_noX [.ref (s0.heap.size + t), .int p1] (wd s0.heap.size sh S) := fun S t p1 r ht hF => ih S t p1 r ht hF d (by omega)
    refine Sp.of (by decide +kernel) rfl (Nat.le_of_ble_eq_true rfl) ?_
    unfold F_X12_pairsFrom at hF
    refine V_iload_n dX12_pairsFrom_0 rfl ?_
    refine V_istore_n dX12_pairsFrom_1 (by decide) ?_
    exact V_lv' (w_X12_pairsFrom_L2 ht G (by omega) hkR f _ _ hF) (v_all_c rfl (v_all_c rfl v_all_n))

