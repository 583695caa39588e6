set_option maxRecDepth 100000 in
set_option maxHeartbeats 4000000 in
theorem w_X12_book_L143 {l : Launch} {s0 : State} {D : va_G} {a0 : Array Value} {sh : List Sh} {f : Nat} {t : Nat} {p1 : Int32} (ht : isX12 sh t) {r : List Sh × Int32 × St} {d : Nat} (G2 : GC2 l s0 D a0) (hd : 12 ≤ d + 1) : ∀ (n : Nat) (S : St) (l3 : Int32), F_X12_book_L143 sh f t p1 n S l3 = some r → V l s0 D (d + 1) 0 0 mX12_book (fun v h => v = some (.int r.2.1) ∧ h = wd s0.heap.size r.1 r.2.2) v_noX 143 [(0, .ref (s0.heap.size + t)), (3, .int l3)] [] (wd s0.heap.size sh S) := by
  have G := G2.1
  intro n
  induction n with
  | zero => intro S l3 hF; cases hF
  | succ n ih =>
    intro S l3 hF
    unfold F_X12_book_L143 at hF
    refine V_iload_n dX12_book_143 rfl ?_
    refine V_iconst (v := 3) dX12_book_144 (by decide) ?_
    refine V_icmp_ge (tgt := 161) dX12_book_145 (by decide) (fun c => ?_) (fun c => ?_)
    · replace hF := (if_pos c).symm.trans hF
      refine V_aload_n dX12_book_161 rfl ?_
      refine V_aload_n dX12_book_162 rfl ?_
      obtain ⟨b1, hrb1, hF⟩ := bd hF
      obtain ⟨hb1, hF⟩ := gv_in hF
      replace hb1 := ckX9_ok hb1
      refine X_gR G dX12_book_163 fX12_312 ht.1 rfl hrb1 ?_
      refine X_gI G dX12_book_166 fX12_272 hb1.1 rfl ?_
      obtain ⟨y2, hc, hF⟩ := bd hF
      refine V_callV G dX12_book_169 kX12_322 (wd_at ht.1) ⟨by decide, rfl⟩ (s_X12_done ht G hc (by omega)) rfl (Nat.le_of_ble_eq_true rfl) (fun _ _ _ q => q.elim) ?_
      rintro _ _ ⟨rfl, rfl⟩
      cases hF
      exact V_ireturn dX12_book_172 rfl rfl ⟨rfl, rfl⟩
    · replace hF := (if_neg c).symm.trans hF
      refine V_aload_n dX12_book_148 rfl ?_
      refine X_gC G dX12_book_149 fX12_41 ht.1 rfl ?_
      refine V_iload_n dX12_book_152 rfl ?_
      refine V_iconst (v := 1) dX12_book_153 (by decide) ?_
      obtain ⟨hz, hF⟩ := gv_out hF
      refine X_iast dX12_book_154 ht.2.2.2.2.2.1 hz ?_
      obtain ⟨S3, qS3, hF⟩ := bnd_g hF
      refine V_eqS qS3 ?_
      obtain ⟨x4, qx4, hF⟩ := bnd_g hF
      refine B_iinc (v := 1) qx4 dX12_book_155 rfl (by decide) (by decide) ?_
      refine V_goto (tgt := 143) dX12_book_158 (by decide) ?_
      exact V_lv' (ih _ _ hF) (v_all_c rfl (v_all_c rfl v_all_n))
set_option maxRecDepth 100000 in
set_option maxHeartbeats 4000000 in
theorem w_X12_book_L128 {l : Launch} {s0 : State} {D : va_G} {a0 : Array Value} {sh : List Sh} {f : Nat} {t : Nat} {p1 : Int32} (ht : isX12 sh t) {r : List Sh × Int32 × St} {d : Nat} (G2 : GC2 l s0 D a0) (hd : 12 ≤ d + 1) : ∀ (S : St) (v0 : Nat) (v1 : Nat),isX12 sh v0 → isX9 sh v1 → F_X12_book_L128 sh f t p1 S v0 v1 = some r → V l s0 D (d + 1) 0 0 mX12_book (fun v h => v = some (.int r.2.1) ∧ h = wd s0.heap.size r.1 r.2.2) v_noX 128 [(0, .ref (s0.heap.size + t))] [.ref (s0.heap.size + v1), .ref (s0.heap.size + v0)] (wd s0.heap.size sh S) := by
  have G := G2.1
  intro S v0 v1 hv0 hv1 hF
  unfold F_X12_book_L128 at hF
  refine X_pR G dX12_book_128 gX12_19 hv0.1 rfl rfl rfl ?_
  obtain ⟨S1, qS1, hF⟩ := bnd_g hF
  refine V_eqS qS1 ?_
  refine V_aload_n dX12_book_131 rfl ?_
  refine V_iconst (v := 0) dX12_book_132 (by decide) ?_
  refine X_pI G dX12_book_133 gX12_315 ht.1 rfl rfl rfl ?_
  obtain ⟨S2, qS2, hF⟩ := bnd_g hF
  refine V_eqS qS2 ?_
  refine V_aload_n dX12_book_136 rfl ?_
  refine V_iconst (v := 0) dX12_book_137 (by decide) ?_
  refine X_pI G dX12_book_138 gX12_318 ht.1 rfl (by decide) (by decide) ?_
  obtain ⟨S3, qS3, hF⟩ := bnd_g hF
  refine V_eqS qS3 ?_
  refine V_iconst (v := 0) dX12_book_141 (by decide) ?_
  refine V_istore_n dX12_book_142 (by decide) ?_
  exact V_lv' (w_X12_book_L143 ht G2 hd f _ _ hF) (v_all_c rfl (v_all_c rfl v_all_n))
set_option maxRecDepth 100000 in
set_option maxHeartbeats 4000000 in
theorem s_X12_book {l : Launch} {s0 : State} {D : va_G} {a0 : Array Value} {sh : List Sh} {f : Nat} {S : St} {t : Nat} {p1 : Int32} (ht : isX12 sh t) {r : List Sh × Int32 × St} (G2 : GC2 l s0 D a0) (hF : F_X12_book sh f S t p1 = some r) {d : Nat} (hd : 12 ≤ d) : SpH l s0 D d 11 88 mX12_book [(59, 67, 70, 23)] (fun v h => v = some (.int r.2.1) ∧ h = wd s0.heap.size r.1 r.2.2) v_noX [.ref (s0.heap.size + t), .int p1] (wd s0.heap.size sh S) := by
  have G := G2.1
  obtain ⟨d, rfl⟩ : ∃ e, d = e + 1 := ⟨d - 1, by omega⟩
  refine SpH.of (by decide +kernel) rfl (Nat.le_of_ble_eq_true rfl) ?_
  unfold F_X12_book at hF
  refine V_aload_n dX12_book_0 rfl ?_
  refine V_iconst (v := 0) dX12_book_1 (by decide) ?_
  refine X_pI G dX12_book_2 gX12_147 ht.1 rfl rfl rfl ?_
  obtain ⟨S1, qS1, hF⟩ := bnd_g hF
  refine V_eqS qS1 ?_
  refine V_iload_n dX12_book_5 rfl ?_
  refine V_if_lt (tgt := 17) dX12_book_6 (by decide) (fun c => ?_) (fun c => ?_)
  · replace hF := (if_pos c).symm.trans hF
    refine V_aload_n dX12_book_17 rfl ?_
    refine V_iconst (v := 2) dX12_book_18 (by decide) ?_
    obtain ⟨y2, hc, hF⟩ := bd hF
    refine V_callV0 (as := [.int 2]) G dX12_book_19 kX12_303 (wd_at ht.1) ⟨by decide, rfl⟩ (s_X12_refused ht G hc (by omega)) rfl (Nat.le_of_ble_eq_true rfl) (fun _ _ _ q => q.elim) ?_
    rintro _ _ ⟨rfl, rfl⟩
    cases hF
    exact V_ireturn dX12_book_22 rfl rfl ⟨rfl, rfl⟩
  · replace hF := (if_neg c).symm.trans hF
    refine V_iload_n dX12_book_9 rfl ?_
    refine V_aload_n dX12_book_10 rfl ?_
    refine X_gI G dX12_book_11 fX12_300 ht.1 rfl ?_
    refine V_icmp_le (tgt := 23) dX12_book_14 (by decide) (fun c => ?_) (fun c => ?_)
    · replace hF := (if_pos c).symm.trans hF
      refine V_aload_n dX12_book_23 rfl ?_
      refine V_iload_n dX12_book_24 rfl ?_
      refine X_pI G dX12_book_25 gX12_164 ht.1 rfl rfl rfl ?_
      obtain ⟨S3, qS3, hF⟩ := bnd_g hF
      refine V_eqS qS3 ?_
      refine V_aload_n dX12_book_28 rfl ?_
      refine V_iconst (v := 0) dX12_book_29 (by decide) ?_
      refine X_pI G dX12_book_30 gX12_300 ht.1 rfl rfl rfl ?_
      obtain ⟨S4, qS4, hF⟩ := bnd_g hF
      refine V_eqS qS4 ?_
      refine V_aload_n dX12_book_33 rfl ?_
      refine V_iconst (v := 0) dX12_book_34 (by decide) ?_
      refine X_pI G dX12_book_35 gX12_179 ht.1 rfl rfl rfl ?_
      obtain ⟨S5, qS5, hF⟩ := bnd_g hF
      refine V_eqS qS5 ?_
      refine V_aload_n dX12_book_38 rfl ?_
      refine V_iconst (v := 0) dX12_book_39 (by decide) ?_
      refine X_pI G dX12_book_40 gX12_306 ht.1 rfl rfl rfl ?_
      obtain ⟨S6, qS6, hF⟩ := bnd_g hF
      refine V_eqS qS6 ?_
      refine V_aload_n dX12_book_43 rfl ?_
      obtain ⟨b7, hrb7, hF⟩ := bd hF
      obtain ⟨hb7, hF⟩ := gv_in hF
      replace hb7 := ckX9_ok hb7
      refine X_gR G dX12_book_44 fX12_19 ht.1 rfl hrb7 ?_
      refine V_iconst (v := 0) dX12_book_47 (by decide) ?_
      refine X_pI G dX12_book_48 gX12_272 hb7.1 rfl rfl rfl ?_
      obtain ⟨S8, qS8, hF⟩ := bnd_g hF
      refine V_eqS qS8 ?_
      refine V_aload_n dX12_book_51 rfl ?_
      obtain ⟨b9, hrb9, hF⟩ := bd hF
      obtain ⟨hb9, hF⟩ := gv_in hF
      replace hb9 := ckX9_ok hb9
      refine X_gR G dX12_book_52 fX12_19 ht.1 rfl hrb9 ?_
      refine V_iconst (v := 0) dX12_book_55 (by decide) ?_
      refine X_pI G dX12_book_56 gX12_278 hb9.1 rfl rfl rfl ?_
      obtain ⟨S10, qS10, hF⟩ := bnd_g hF
      refine V_eqS qS10 ?_
      refine V_aload_n dX12_book_59 rfl ?_
      obtain ⟨y11, hc, hF⟩ := bd hF
      refine V_callV0 (as := []) G dX12_book_60 kX12_236 (wd_at ht.1) ⟨by decide, rfl⟩ (s_X12_next ht G hc (by omega)) rfl (Nat.le_of_ble_eq_true rfl) (fun _ _ _ q => q.elim) ?_
      rintro _ _ ⟨rfl, rfl⟩
      refine V_aload_n dX12_book_63 rfl ?_
      obtain ⟨y12, hc, hF⟩ := bd hF
      refine V_callVC0 (as := []) (x := ⟨59, 67, 70, 23⟩) (E0 := RX11) (name := "DrawnWaysModel$Stop") G dX12_book_64 kX12_309 (wd_at ht.1) ⟨by decide, rfl⟩ (s_X12_readBook ht G2 hc (by omega)) rfl (Nat.le_of_ble_eq_true rfl) rfl (by decide) (by decide) cX12_23 (cast_stop G2) (by rintro _ _ _ ⟨_, _, _, rfl, _⟩; rfl) ?_ ?_
      · rintro _ _ _ ⟨w9, rfl, rfl, rfl, rfl⟩
        replace hF := thr2_r hF
        obtain ⟨hw9, hF⟩ := gv_out hF
        replace hw9 := ckX11_ok (Decidable.not_not.mp hw9)
        refine V_astore_n dX12_book_70 (by decide) ?_
        refine V_aload_n dX12_book_71 rfl ?_
        refine V_aload_n dX12_book_72 rfl ?_
        refine X_gI G dX12_book_73 fX12_153 hw9 rfl ?_
        refine X_pI G dX12_book_76 gX12_306 ht.1 rfl rfl rfl ?_
        obtain ⟨S18, qS18, hF⟩ := bnd_g hF
        refine V_eqS qS18 ?_
        refine V_aload_n dX12_book_79 rfl ?_
        refine V_iconst (v := 4) dX12_book_80 (by decide) ?_
        refine X_pI G dX12_book_81 gX12_150 ht.1 rfl rfl rfl ?_
        obtain ⟨S19, qS19, hF⟩ := bnd_g hF
        refine V_eqS qS19 ?_
        refine V_aload_n dX12_book_84 rfl ?_
        refine V_aload_n dX12_book_85 rfl ?_
        refine X_gI G dX12_book_86 fX12_156 hw9 rfl ?_
        refine X_pI G dX12_book_89 gX12_9 ht.1 rfl rfl rfl ?_
        obtain ⟨S20, qS20, hF⟩ := bnd_g hF
        refine V_eqS qS20 ?_
        refine V_aload_n dX12_book_92 rfl ?_
        refine V_iconst (v := -1) dX12_book_93 (by decide) ?_
        refine X_pI G dX12_book_94 gX12_13 ht.1 rfl rfl rfl ?_
        obtain ⟨S21, qS21, hF⟩ := bnd_g hF
        refine V_eqS qS21 ?_
        refine V_iconst (v := -1) dX12_book_97 (by decide) ?_
        cases hF
        exact V_ireturn dX12_book_98 rfl rfl ⟨rfl, rfl⟩
      · rintro _ _ ⟨y12, rfl, rfl, rfl⟩
        replace hF := thr2_l hF
        refine V_goto (tgt := 99) dX12_book_67 (by decide) ?_
        refine V_aload_n dX12_book_99 rfl ?_
        cases hr : sR y12 t 5 with
        | none =>
          replace hF := oM_n hr hF
          refine X_gN G dX12_book_100 fX12_312 ht.1 rfl hr ?_
          refine V_astore_nN dX12_book_103 (by decide) ?_
          refine V_aload_n dX12_book_104 rfl ?_
          refine V_aload_n dX12_book_105 rfl ?_
          obtain ⟨b14, hrb14, hF⟩ := bd hF
          obtain ⟨hb14, hF⟩ := gv_in hF
          replace hb14 := ckX9_ok hb14
          refine X_gR G dX12_book_106 fX12_19 ht.1 rfl hrb14 ?_
          refine X_pR G dX12_book_109 gX12_312 ht.1 rfl rfl rfl ?_
          obtain ⟨S15, qS15, hF⟩ := bnd_g hF
          refine V_eqS qS15 ?_
          refine V_aload_n dX12_book_112 rfl ?_
          refine V_aload_nN dX12_book_113 rfl ?_
          refine V_ifnonnullN dX12_book_114 ?_
          refine V_newBk G dX12_book_117 dX12_book_120 dX12_book_121 cX12_16 kX12_18 (Nat.le_of_ble_eq_true rfl) (by omega) ?_
          refine V_goto (tgt := 128) dX12_book_124 (by decide) ?_
          exact V_lv' (w_X12_book_L128 (isX12_app ht) G2 hd _ _ _ (isX12_app ht) (bk_is sh) hF) (v_all_c rfl v_all_n)
        | some b13 =>
          replace hF := oM_s hr hF
          obtain ⟨hb13, hF⟩ := gv_in hF
          replace hb13 := ckX9_ok hb13
          refine X_gR G dX12_book_100 fX12_312 ht.1 rfl hr ?_
          refine V_astore_n dX12_book_103 (by decide) ?_
          refine V_aload_n dX12_book_104 rfl ?_
          refine V_aload_n dX12_book_105 rfl ?_
          obtain ⟨b16, hrb16, hF⟩ := bd hF
          obtain ⟨hb16, hF⟩ := gv_in hF
          replace hb16 := ckX9_ok hb16
          refine X_gR G dX12_book_106 fX12_19 ht.1 rfl hrb16 ?_
          refine X_pR G dX12_book_109 gX12_312 ht.1 rfl rfl rfl ?_
          obtain ⟨S17, qS17, hF⟩ := bnd_g hF
          refine V_eqS qS17 ?_
          refine V_aload_n dX12_book_112 rfl ?_
          refine V_aload_n dX12_book_113 rfl ?_
          refine V_ifnonnull (tgt := 127) dX12_book_114 (by decide) ?_
          refine V_aload_n dX12_book_127 rfl ?_
          exact V_less (Nat.zero_le _) (Nat.zero_le _) (V_lv' (w_X12_book_L128 ht G2 hd _ _ _ ht hb13 hF) (v_all_c rfl v_all_n))
    · replace hF := (if_neg c).symm.trans hF
      refine V_aload_n dX12_book_17 rfl ?_
      refine V_iconst (v := 2) dX12_book_18 (by decide) ?_
      obtain ⟨y22, hc, hF⟩ := bd hF
      refine V_callV0 (as := [.int 2]) G dX12_book_19 kX12_303 (wd_at ht.1) ⟨by decide, rfl⟩ (s_X12_refused ht G hc (by omega)) rfl (Nat.le_of_ble_eq_true rfl) (fun _ _ _ q => q.elim) ?_
      rintro _ _ ⟨rfl, rfl⟩
      cases hF
      exact V_ireturn dX12_book_22 rfl rfl ⟨rfl, rfl⟩

