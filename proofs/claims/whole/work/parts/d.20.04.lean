set_option maxRecDepth 100000 in
set_option maxHeartbeats 4000000 in
theorem s_X12_fills {l : Launch} {s0 : State} {D : va_G} {a0 : Array Value} {sh : List Sh} {f : Nat} {S : St} {t : Nat} {p1 : Nat} {p2 : Int32} (ht : isX12 sh t) (hp1 : isX10 sh p1) {r : Int32 × St} (G : GC l s0 D a0) (hF : F_X12_fills sh f S t p1 p2 = some r) {d : Nat} (hd : 27 ≤ d) : Sp l s0 D d 0 0 mX12_fills (fun v h => v = some (.int r.1) ∧ h = wd s0.heap.size sh r.2) v_noX [.ref (s0.heap.size + t), .ref (s0.heap.size + p1), .int p2] (wd s0.heap.size sh S) := by
  obtain ⟨d, rfl⟩ : ∃ e, d = e + 1 := ⟨d - 1, by omega⟩
  refine Sp.of (by decide +kernel) rfl (Nat.le_of_ble_eq_true rfl) ?_
  unfold F_X12_fills at hF
  refine V_aload_n dX12_fills_0 rfl ?_
  refine V_iload_n dX12_fills_1 rfl ?_
  refine X_pI G dX12_fills_2 gX12_339 hp1.1 rfl rfl rfl ?_
  obtain ⟨S1, qS1, hF⟩ := bnd_g hF
  refine V_eqS qS1 ?_
  refine V_aload_n dX12_fills_5 rfl ?_
  refine V_iconst (v := 0) dX12_fills_6 (by decide) ?_
  refine X_pI G dX12_fills_7 gX12_404 hp1.1 rfl rfl rfl ?_
  obtain ⟨S2, qS2, hF⟩ := bnd_g hF
  refine V_eqS qS2 ?_
  refine V_aload_n dX12_fills_10 rfl ?_
  refine V_iconst (v := 0) dX12_fills_11 (by decide) ?_
  refine X_pI G dX12_fills_12 gX12_423 hp1.1 rfl rfl rfl ?_
  obtain ⟨S3, qS3, hF⟩ := bnd_g hF
  refine V_eqS qS3 ?_
  refine V_aload_n dX12_fills_15 rfl ?_
  refine V_aload_n dX12_fills_16 rfl ?_
  refine V_iconst (v := 0) dX12_fills_17 (by decide) ?_
  refine V_iconst (v := 0) dX12_fills_18 (by decide) ?_
  obtain ⟨y4, hc, hF⟩ := bd hF
  refine V_callV G dX12_fills_19 kX12_389 (wd_at ht.1) ⟨by decide, rfl⟩ (s_X12_lists G 10 _ _ _ _ _ _ ht hp1 hc _ (by omega)) rfl (Nat.le_of_ble_eq_true rfl) (fun _ _ _ q => q.elim) ?_
  rintro _ _ ⟨rfl, rfl⟩
  obtain ⟨hz, hF⟩ := gv_out hF
  cases hF
  exact V_ireturn dX12_fills_22 rfl (nb_n hz) ⟨rfl, rfl⟩
set_option maxRecDepth 100000 in
set_option maxHeartbeats 4000000 in
theorem w_X12_copiesEnds_L10 {l : Launch} {s0 : State} {D : va_G} {a0 : Array Value} {sh : List Sh} {f : Nat} {t : Nat} {p1 : Nat} (ht : isX12 sh t) (hp1 : isX10 sh p1) {r : St} {d : Nat} (G : GC l s0 D a0) (hd : 1 ≤ d + 1) : ∀ (n : Nat) (S : St) (l2 : Int32), F_X12_copiesEnds_L10 sh f t p1 n S l2 = some r → V l s0 D (d + 1) 0 0 mX12_copiesEnds (fun v h => v = none ∧ h = wd s0.heap.size sh r) v_noX 10 [(0, .ref (s0.heap.size + t)), (1, .ref (s0.heap.size + p1)), (2, .int l2)] [] (wd s0.heap.size sh S) := by
  intro n
  induction n with
  | zero => intro S l2 hF; cases hF
  | succ n ih =>
    intro S l2 hF
    unfold F_X12_copiesEnds_L10 at hF
    refine V_iload_n dX12_copiesEnds_10 rfl ?_
    refine V_aload_n dX12_copiesEnds_11 rfl ?_
    refine X_gI G dX12_copiesEnds_12 fX12_315 ht.1 rfl ?_
    refine V_icmp_ge (tgt := 48) dX12_copiesEnds_15 (by decide) (fun c => ?_) (fun c => ?_)
    · replace hF := (if_pos c).symm.trans hF
      cases hF
      exact V_return dX12_copiesEnds_48 rfl ⟨rfl, rfl⟩
    · replace hF := (if_neg c).symm.trans hF
      refine V_aload_n dX12_copiesEnds_18 rfl ?_
      refine X_gC G dX12_copiesEnds_19 fX12_334 hp1.1 rfl ?_
      refine V_iload_n dX12_copiesEnds_22 rfl ?_
      refine V_aload_n dX12_copiesEnds_23 rfl ?_
      refine X_gC G dX12_copiesEnds_24 fX12_34 ht.1 rfl ?_
      refine V_iload_n dX12_copiesEnds_27 rfl ?_
      obtain ⟨hz, hF⟩ := gv_out hF
      refine X_iald dX12_copiesEnds_28 ht.2.2.2.1 hz ?_
      obtain ⟨hz, hF⟩ := gv_out hF
      refine X_iast dX12_copiesEnds_29 hp1.2.1 hz ?_
      obtain ⟨S1, qS1, hF⟩ := bnd_g hF
      refine V_eqS qS1 ?_
      refine V_aload_n dX12_copiesEnds_30 rfl ?_
      refine X_gC G dX12_copiesEnds_31 fX12_426 hp1.1 rfl ?_
      refine V_iload_n dX12_copiesEnds_34 rfl ?_
      refine V_aload_n dX12_copiesEnds_35 rfl ?_
      refine X_gC G dX12_copiesEnds_36 fX12_38 ht.1 rfl ?_
      refine V_iload_n dX12_copiesEnds_39 rfl ?_
      obtain ⟨hz, hF⟩ := gv_out hF
      refine X_iald dX12_copiesEnds_40 ht.2.2.2.2.1 hz ?_
      obtain ⟨hz, hF⟩ := gv_out hF
      refine X_iast dX12_copiesEnds_41 hp1.2.2.1 hz ?_
      obtain ⟨S2, qS2, hF⟩ := bnd_g hF
      refine V_eqS qS2 ?_
      obtain ⟨x3, qx3, hF⟩ := bnd_g hF
      refine B_iinc (v := 1) qx3 dX12_copiesEnds_42 rfl (by decide) (by decide) ?_
      refine V_goto (tgt := 10) dX12_copiesEnds_45 (by decide) ?_
      exact V_lv' (ih _ _ hF) (v_all_c rfl (v_all_c rfl (v_all_c rfl v_all_n)))
set_option maxRecDepth 100000 in
set_option maxHeartbeats 4000000 in
theorem s_X12_copiesEnds {l : Launch} {s0 : State} {D : va_G} {a0 : Array Value} {sh : List Sh} {f : Nat} {S : St} {t : Nat} {p1 : Nat} (ht : isX12 sh t) (hp1 : isX10 sh p1) {r : St} (G : GC l s0 D a0) (hF : F_X12_copiesEnds sh f S t p1 = some r) {d : Nat} (hd : 1 ≤ d) : Sp l s0 D d 0 0 mX12_copiesEnds (fun v h => v = none ∧ h = wd s0.heap.size sh r) v_noX [.ref (s0.heap.size + t), .ref (s0.heap.size + p1)] (wd s0.heap.size sh S) := by
  obtain ⟨d, rfl⟩ : ∃ e, d = e + 1 := ⟨d - 1, by omega⟩
  refine Sp.of (by decide +kernel) rfl (Nat.le_of_ble_eq_true rfl) ?_
  unfold F_X12_copiesEnds at hF
  refine V_aload_n dX12_copiesEnds_0 rfl ?_
  refine V_aload_n dX12_copiesEnds_1 rfl ?_
  refine X_gI G dX12_copiesEnds_2 fX12_315 ht.1 rfl ?_
  refine X_pI G dX12_copiesEnds_5 gX12_333 hp1.1 rfl rfl rfl ?_
  obtain ⟨S1, qS1, hF⟩ := bnd_g hF
  refine V_eqS qS1 ?_
  refine V_iconst (v := 0) dX12_copiesEnds_8 (by decide) ?_
  refine V_istore_n dX12_copiesEnds_9 (by decide) ?_
  exact V_lv' (w_X12_copiesEnds_L10 ht hp1 G hd f _ _ hF) (v_all_c rfl (v_all_c rfl (v_all_c rfl v_all_n)))
set_option maxRecDepth 100000 in
set_option maxHeartbeats 4000000 in
theorem w_X12_isDrawn_L7 {l : Launch} {s0 : State} {D : va_G} {a0 : Array Value} {sh : List Sh} {f : Nat} {S : St} {t : Nat} {p1 : Nat} (ht : isX12 sh t) (hp1 : isX10 sh p1) {r : Int32} {d : Nat} (G : GC l s0 D a0) (hd : 1 ≤ d + 1) : ∀ (n : Nat) (l2 : Int32) (l3 : Int32) (l4 : Int32), F_X12_isDrawn_L7 sh f S t p1 n l2 l3 l4 = some r → V l s0 D (d + 1) 0 0 mX12_isDrawn (fun v h => v = some (.int r) ∧ h = wd s0.heap.size sh S) v_noX 7 [(0, .ref (s0.heap.size + t)), (1, .ref (s0.heap.size + p1)), (2, .int l2), (3, .int l3), (4, .int l4)] [] (wd s0.heap.size sh S) := by
  intro n
  induction n with
  | zero => intro l2 l3 l4 hF; cases hF
  | succ n ih =>
    intro l2 l3 l4 hF
    unfold F_X12_isDrawn_L7 at hF
    refine V_iload dX12_isDrawn_7 rfl ?_
    refine V_aload_n dX12_isDrawn_9 rfl ?_
    refine X_gI G dX12_isDrawn_10 fX12_333 hp1.1 rfl ?_
    refine V_icmp_ge (tgt := 67) dX12_isDrawn_13 (by decide) (fun c => ?_) (fun c => ?_)
    · replace hF := (if_pos c).symm.trans hF
      refine V_iload_n dX12_isDrawn_67 rfl ?_
      refine V_if_ne (tgt := 81) dX12_isDrawn_68 (by decide) (fun c => ?_) (fun c => ?_)
      · replace hF := (if_neg c).symm.trans hF
        refine V_iconst (v := 0) dX12_isDrawn_81 (by decide) ?_
        cases hF
        exact V_ireturn dX12_isDrawn_82 rfl (by decide) ⟨rfl, rfl⟩
      · replace hF := (if_pos c).symm.trans hF
        refine V_iload_n dX12_isDrawn_71 rfl ?_
        refine V_iconst (v := 2) dX12_isDrawn_72 (by decide) ?_
        refine V_irem dX12_isDrawn_73 (by decide) ?_
        refine V_if_ne (tgt := 81) dX12_isDrawn_74 (by decide) (fun c => ?_) (fun c => ?_)
        · replace hF := (if_neg c).symm.trans hF
          refine V_iconst (v := 0) dX12_isDrawn_81 (by decide) ?_
          cases hF
          exact V_ireturn dX12_isDrawn_82 rfl (by decide) ⟨rfl, rfl⟩
        · replace hF := (if_pos c).symm.trans hF
          refine V_iconst (v := 1) dX12_isDrawn_77 (by decide) ?_
          refine V_goto (tgt := 82) dX12_isDrawn_78 (by decide) ?_
          cases hF
          exact V_ireturn dX12_isDrawn_82 rfl (by decide) ⟨rfl, rfl⟩
    · replace hF := (if_neg c).symm.trans hF
      refine V_iload_n dX12_isDrawn_16 rfl ?_
      refine V_aload_n dX12_isDrawn_17 rfl ?_
      obtain ⟨b1, hrb1, hF⟩ := bd hF
      obtain ⟨hb1, hF⟩ := gv_in hF
      replace hb1 := ckX9_ok hb1
      refine X_gR G dX12_isDrawn_18 fX12_312 ht.1 rfl hrb1 ?_
      refine X_gC G dX12_isDrawn_21 fX12_255 hb1.1 rfl ?_
      refine V_aload_n dX12_isDrawn_24 rfl ?_
      refine X_gC G dX12_isDrawn_25 fX12_334 hp1.1 rfl ?_
      refine V_iload dX12_isDrawn_28 rfl ?_
      obtain ⟨hz, hF⟩ := gv_out hF
      refine X_iald dX12_isDrawn_30 hp1.2.1 hz ?_
      obtain ⟨hz, hF⟩ := gv_out hF
      refine X_iald dX12_isDrawn_31 hb1.2.2.2.2.1 hz ?_
      refine V_iadd dX12_isDrawn_32 ?_
      obtain ⟨x2, qx2, hF⟩ := bnd_g hF
      refine B_istore_n qx2 dX12_isDrawn_33 (by decide) ?_
      refine V_iload_n dX12_isDrawn_34 rfl ?_
      refine V_aload_n dX12_isDrawn_35 rfl ?_
      obtain ⟨b3, hrb3, hF⟩ := bd hF
      obtain ⟨hb3, hF⟩ := gv_in hF
      replace hb3 := ckX9_ok hb3
      refine X_gR G dX12_isDrawn_36 fX12_312 ht.1 rfl hrb3 ?_
      refine X_gC G dX12_isDrawn_39 fX12_250 hb3.1 rfl ?_
      refine V_aload_n dX12_isDrawn_42 rfl ?_
      refine X_gC G dX12_isDrawn_43 fX12_334 hp1.1 rfl ?_
      refine V_iload dX12_isDrawn_46 rfl ?_
      obtain ⟨hz, hF⟩ := gv_out hF
      refine X_iald dX12_isDrawn_48 hp1.2.1 hz ?_
      obtain ⟨hz, hF⟩ := gv_out hF
      refine X_iald dX12_isDrawn_49 hb3.2.2.2.2.2.1 hz ?_
      refine V_iconst (v := 2) dX12_isDrawn_50 (by decide) ?_
      refine V_icmp_ne (tgt := 58) dX12_isDrawn_51 (by decide) (fun c => ?_) (fun c => ?_)
      · replace hF := (if_neg c).symm.trans hF
        refine V_iconst (v := 0) dX12_isDrawn_58 (by decide) ?_
        refine V_iadd dX12_isDrawn_59 ?_
        obtain ⟨x4, qx4, hF⟩ := bnd_g hF
        refine B_istore_n qx4 dX12_isDrawn_60 (by decide) ?_
        obtain ⟨x5, qx5, hF⟩ := bnd_g hF
        refine B_iinc (v := 1) qx5 dX12_isDrawn_61 rfl (by decide) (by decide) ?_
        refine V_goto (tgt := 7) dX12_isDrawn_64 (by decide) ?_
        exact V_lv' (ih _ _ _ hF) (v_all_c rfl (v_all_c rfl (v_all_c rfl (v_all_c rfl (v_all_c rfl v_all_n)))))
      · replace hF := (if_pos c).symm.trans hF
        refine V_iconst (v := 1) dX12_isDrawn_54 (by decide) ?_
        refine V_goto (tgt := 59) dX12_isDrawn_55 (by decide) ?_
        refine V_iadd dX12_isDrawn_59 ?_
        obtain ⟨x6, qx6, hF⟩ := bnd_g hF
        refine B_istore_n qx6 dX12_isDrawn_60 (by decide) ?_
        obtain ⟨x7, qx7, hF⟩ := bnd_g hF
        refine B_iinc (v := 1) qx7 dX12_isDrawn_61 rfl (by decide) (by decide) ?_
        refine V_goto (tgt := 7) dX12_isDrawn_64 (by decide) ?_
        exact V_lv' (ih _ _ _ hF) (v_all_c rfl (v_all_c rfl (v_all_c rfl (v_all_c rfl (v_all_c rfl v_all_n)))))
set_option maxRecDepth 100000 in
set_option maxHeartbeats 4000000 in
theorem s_X12_isDrawn {l : Launch} {s0 : State} {D : va_G} {a0 : Array Value} {sh : List Sh} {f : Nat} {S : St} {t : Nat} {p1 : Nat} (ht : isX12 sh t) (hp1 : isX10 sh p1) {r : Int32} (G : GC l s0 D a0) (hF : F_X12_isDrawn sh f S t p1 = some r) {d : Nat} (hd : 1 ≤ d) : Sp l s0 D d 0 0 mX12_isDrawn (fun v h => v = some (.int r) ∧ h = wd s0.heap.size sh S) v_noX [.ref (s0.heap.size + t), .ref (s0.heap.size + p1)] (wd s0.heap.size sh S) := by
  obtain ⟨d, rfl⟩ : ∃ e, d = e + 1 := ⟨d - 1, by omega⟩
  refine Sp.of (by decide +kernel) rfl (Nat.le_of_ble_eq_true rfl) ?_
  unfold F_X12_isDrawn at hF
  refine V_iconst (v := 0) dX12_isDrawn_0 (by decide) ?_
  refine V_istore_n dX12_isDrawn_1 (by decide) ?_
  refine V_iconst (v := 0) dX12_isDrawn_2 (by decide) ?_
  refine V_istore_n dX12_isDrawn_3 (by decide) ?_
  refine V_iconst (v := 0) dX12_isDrawn_4 (by decide) ?_
  refine V_istore dX12_isDrawn_5 (by decide) ?_
  exact V_lv' (w_X12_isDrawn_L7 ht hp1 G hd f _ _ _ hF) (v_all_c rfl (v_all_c rfl (v_all_c rfl (v_all_c rfl (v_all_c rfl v_all_n)))))
set_option maxRecDepth 100000 in
set_option maxHeartbeats 4000000 in
theorem w_X12_drawings_L222 {l : Launch} {s0 : State} {D : va_G} {a0 : Array Value} {sh : List Sh} {f : Nat} {t : Nat} {p1 : Int32} (ht : isX12 sh t) {r : Int32 × St} {d : Nat} (G : GC l s0 D a0) (hd : 28 ≤ d + 1) {k155 : St → Int32 → Option (Int32 × St)} (hk155 : ∀ (S : St) (l2 : Int32), k155 S l2 = some r → V l s0 D (d + 1) 0 0 mX12_drawings (fun v h => v = some (.int r.1) ∧ h = wd s0.heap.size sh r.2) v_noX 155 [(0, .ref (s0.heap.size + t)), (2, .int l2)] [] (wd s0.heap.size sh S)) : ∀ (n : Nat) (S : St) (l2 : Int32) (l3 : Int32), F_X12_drawings_L222 sh f t p1 k155 n S l2 l3 = some r → V l s0 D (d + 1) 0 0 mX12_drawings (fun v h => v = some (.int r.1) ∧ h = wd s0.heap.size sh r.2) v_noX 222 [(0, .ref (s0.heap.size + t)), (2, .int l2), (3, .int l3)] [] (wd s0.heap.size sh S) := by
  intro n
  induction n with
  | zero => intro S l2 l3 hF; cases hF
  | succ n ih =>
    intro S l2 l3 hF
    unfold F_X12_drawings_L222 at hF
    refine V_iload_n dX12_drawings_222 rfl ?_
    refine V_iconst (v := 3) dX12_drawings_223 (by decide) ?_
    refine V_icmp_ge (tgt := 259) dX12_drawings_224 (by decide) (fun c => ?_) (fun c => ?_)
    · replace hF := (if_pos c).symm.trans hF
      obtain ⟨x1, qx1, hF⟩ := bnd_g hF
      refine B_iinc (v := 1) qx1 dX12_drawings_259 rfl (by decide) (by decide) ?_
      refine V_goto (tgt := 155) dX12_drawings_262 (by decide) ?_
      exact V_lv' (hk155 _ _ hF) (v_all_c rfl (v_all_c rfl v_all_n))
    · replace hF := (if_neg c).symm.trans hF
      refine V_aload_n dX12_drawings_227 rfl ?_
      refine X_gC G dX12_drawings_228 fX12_47 ht.1 rfl ?_
      refine X_gC G dX12_drawings_231 fX12_407 ht.2.2.2.2.2.2.1.1 rfl ?_
      refine V_iconst (v := 3) dX12_drawings_234 (by decide) ?_
      refine V_iload_n dX12_drawings_235 rfl ?_
      refine V_imul dX12_drawings_236 ?_
      refine V_iload_n dX12_drawings_237 rfl ?_
      refine V_iadd dX12_drawings_238 ?_
      refine V_aload_n dX12_drawings_239 rfl ?_
      refine X_gC G dX12_drawings_240 fX12_51 ht.1 rfl ?_
      refine X_gC G dX12_drawings_243 fX12_407 ht.2.2.2.2.2.2.2.1.1 rfl ?_
      refine V_iconst (v := 3) dX12_drawings_246 (by decide) ?_
      refine V_iload_n dX12_drawings_247 rfl ?_
      refine V_imul dX12_drawings_248 ?_
      refine V_iload_n dX12_drawings_249 rfl ?_
      refine V_iadd dX12_drawings_250 ?_
      obtain ⟨hz, hF⟩ := gv_out hF
      refine X_iald dX12_drawings_251 ht.2.2.2.2.2.2.2.1.2.2.2.1 hz ?_
      obtain ⟨hz, hF⟩ := gv_out hF
      refine X_iast dX12_drawings_252 ht.2.2.2.2.2.2.1.2.2.2.1 hz ?_
      obtain ⟨S2, qS2, hF⟩ := bnd_g hF
      refine V_eqS qS2 ?_
      obtain ⟨x3, qx3, hF⟩ := bnd_g hF
      refine B_iinc (v := 1) qx3 dX12_drawings_253 rfl (by decide) (by decide) ?_
      refine V_goto (tgt := 222) dX12_drawings_256 (by decide) ?_
      exact V_lv' (ih _ _ _ hF) (v_all_c rfl (v_all_c rfl (v_all_c rfl v_all_n)))
set_option maxRecDepth 100000 in
set_option maxHeartbeats 4000000 in
theorem w_X12_drawings_L155 {l : Launch} {s0 : State} {D : va_G} {a0 : Array Value} {sh : List Sh} {f : Nat} {t : Nat} {p1 : Int32} (ht : isX12 sh t) {r : Int32 × St} {d : Nat} (G : GC l s0 D a0) (hd : 28 ≤ d + 1) : ∀ (n : Nat) (S : St) (l2 : Int32), F_X12_drawings_L155 sh f t p1 n S l2 = some r → V l s0 D (d + 1) 0 0 mX12_drawings (fun v h => v = some (.int r.1) ∧ h = wd s0.heap.size sh r.2) v_noX 155 [(0, .ref (s0.heap.size + t)), (2, .int l2)] [] (wd s0.heap.size sh S) := by
  intro n
  induction n with
  | zero => intro S l2 hF; cases hF
  | succ n ih =>
    intro S l2 hF
    unfold F_X12_drawings_L155 at hF
    refine V_iload_n dX12_drawings_155 rfl ?_
    refine V_aload_n dX12_drawings_156 rfl ?_
    refine X_gC G dX12_drawings_157 fX12_51 ht.1 rfl ?_
    refine X_gI G dX12_drawings_160 fX12_404 ht.2.2.2.2.2.2.2.1.1 rfl ?_
    refine V_icmp_ge (tgt := 265) dX12_drawings_163 (by decide) (fun c => ?_) (fun c => ?_)
    · replace hF := (if_pos c).symm.trans hF
      refine V_aload_n dX12_drawings_265 rfl ?_
      refine V_iconst (v := 1) dX12_drawings_266 (by decide) ?_
      refine X_pI G dX12_drawings_267 gX12_318 ht.1 rfl (by decide) (by decide) ?_
      obtain ⟨S1, qS1, hF⟩ := bnd_g hF
      refine V_eqS qS1 ?_
      refine V_aload_n dX12_drawings_270 rfl ?_
      refine V_aload_n dX12_drawings_271 rfl ?_
      refine X_gC G dX12_drawings_272 fX12_47 ht.1 rfl ?_
      refine X_gI G dX12_drawings_275 fX12_404 ht.2.2.2.2.2.2.1.1 rfl ?_
      obtain ⟨y2, hc, hF⟩ := bd hF
      refine V_callV G dX12_drawings_278 kX12_322 (wd_at ht.1) ⟨by decide, rfl⟩ (s_X12_done ht G hc (by omega)) rfl (Nat.le_of_ble_eq_true rfl) (fun _ _ _ q => q.elim) ?_
      rintro _ _ ⟨rfl, rfl⟩
      cases hF
      exact V_ireturn dX12_drawings_281 rfl rfl ⟨rfl, rfl⟩
    · replace hF := (if_neg c).symm.trans hF
      refine V_aload_n dX12_drawings_166 rfl ?_
      refine X_gC G dX12_drawings_167 fX12_47 ht.1 rfl ?_
      refine X_gC G dX12_drawings_170 fX12_410 ht.2.2.2.2.2.2.1.1 rfl ?_
      refine V_iload_n dX12_drawings_173 rfl ?_
      refine V_aload_n dX12_drawings_174 rfl ?_
      refine X_gC G dX12_drawings_175 fX12_51 ht.1 rfl ?_
      refine X_gC G dX12_drawings_178 fX12_410 ht.2.2.2.2.2.2.2.1.1 rfl ?_
      refine V_iload_n dX12_drawings_181 rfl ?_
      obtain ⟨hz, hF⟩ := gv_out hF
      refine X_lald dX12_drawings_182 ht.2.2.2.2.2.2.2.1.2.2.2.2.2.2 hz ?_
      obtain ⟨hz, hF⟩ := gv_out hF
      refine X_last dX12_drawings_183 ht.2.2.2.2.2.2.1.2.2.2.2.2.2 hz ?_
      obtain ⟨S3, qS3, hF⟩ := bnd_g hF
      refine V_eqS qS3 ?_
      refine V_aload_n dX12_drawings_184 rfl ?_
      refine X_gC G dX12_drawings_185 fX12_47 ht.1 rfl ?_
      refine X_gC G dX12_drawings_188 fX12_416 ht.2.2.2.2.2.2.1.1 rfl ?_
      refine V_iload_n dX12_drawings_191 rfl ?_
      refine V_aload_n dX12_drawings_192 rfl ?_
      refine X_gC G dX12_drawings_193 fX12_51 ht.1 rfl ?_
      refine X_gC G dX12_drawings_196 fX12_416 ht.2.2.2.2.2.2.2.1.1 rfl ?_
      refine V_iload_n dX12_drawings_199 rfl ?_
      obtain ⟨hz, hF⟩ := gv_out hF
      refine X_iald dX12_drawings_200 ht.2.2.2.2.2.2.2.1.2.2.2.2.1 hz ?_
      obtain ⟨hz, hF⟩ := gv_out hF
      refine X_iast dX12_drawings_201 ht.2.2.2.2.2.2.1.2.2.2.2.1 hz ?_
      obtain ⟨S4, qS4, hF⟩ := bnd_g hF
      refine V_eqS qS4 ?_
      refine V_aload_n dX12_drawings_202 rfl ?_
      refine X_gC G dX12_drawings_203 fX12_47 ht.1 rfl ?_
      refine X_gC G dX12_drawings_206 fX12_413 ht.2.2.2.2.2.2.1.1 rfl ?_
      refine V_iload_n dX12_drawings_209 rfl ?_
      refine V_aload_n dX12_drawings_210 rfl ?_
      refine X_gC G dX12_drawings_211 fX12_51 ht.1 rfl ?_
      refine X_gC G dX12_drawings_214 fX12_413 ht.2.2.2.2.2.2.2.1.1 rfl ?_
      refine V_iload_n dX12_drawings_217 rfl ?_
      obtain ⟨hz, hF⟩ := gv_out hF
      refine X_iald dX12_drawings_218 ht.2.2.2.2.2.2.2.1.2.2.2.2.2.1 hz ?_
      obtain ⟨hz, hF⟩ := gv_out hF
      refine X_iast dX12_drawings_219 ht.2.2.2.2.2.2.1.2.2.2.2.2.1 hz ?_
      obtain ⟨S5, qS5, hF⟩ := bnd_g hF
      refine V_eqS qS5 ?_
      refine V_iconst (v := 0) dX12_drawings_220 (by decide) ?_
      refine V_istore_n dX12_drawings_221 (by decide) ?_
      exact V_lv' (w_X12_drawings_L222 ht G hd ih f _ _ _ hF) (v_all_c rfl (v_all_c rfl (v_all_c rfl v_all_n)))
set_option maxRecDepth 100000 in
set_option maxHeartbeats 4000000 in
theorem w_X12_drawings_L126 {l : Launch} {s0 : State} {D : va_G} {a0 : Array Value} {sh : List Sh} {f : Nat} {t : Nat} {p1 : Int32} (ht : isX12 sh t) {r : Int32 × St} {d : Nat} (G : GC l s0 D a0) (hd : 28 ≤ d + 1) : ∀ (n : Nat) (S : St) (l2 : Int32), F_X12_drawings_L126 sh f t p1 n S l2 = some r → V l s0 D (d + 1) 0 0 mX12_drawings (fun v h => v = some (.int r.1) ∧ h = wd s0.heap.size sh r.2) v_noX 126 [(0, .ref (s0.heap.size + t)), (2, .int l2)] [] (wd s0.heap.size sh S) := by
  intro n
  induction n with
  | zero => intro S l2 hF; cases hF
  | succ n ih =>
    intro S l2 hF
    unfold F_X12_drawings_L126 at hF
    refine V_iload_n dX12_drawings_126 rfl ?_
    refine V_bipush (v := 6) dX12_drawings_127 (by decide) ?_
    refine V_icmp_ge (tgt := 153) dX12_drawings_129 (by decide) (fun c => ?_) (fun c => ?_)
    · replace hF := (if_pos c).symm.trans hF
      refine V_iconst (v := 0) dX12_drawings_153 (by decide) ?_
      refine V_istore_n dX12_drawings_154 (by decide) ?_
      exact V_lv' (w_X12_drawings_L155 ht G hd f _ _ hF) (v_all_c rfl (v_all_c rfl v_all_n))
    · replace hF := (if_neg c).symm.trans hF
      refine V_aload_n dX12_drawings_132 rfl ?_
      refine X_gC G dX12_drawings_133 fX12_47 ht.1 rfl ?_
      refine X_gC G dX12_drawings_136 fX12_334 ht.2.2.2.2.2.2.1.1 rfl ?_
      refine V_iload_n dX12_drawings_139 rfl ?_
      refine V_aload_n dX12_drawings_140 rfl ?_
      refine X_gC G dX12_drawings_141 fX12_34 ht.1 rfl ?_
      refine V_iload_n dX12_drawings_144 rfl ?_
      obtain ⟨hz, hF⟩ := gv_out hF
      refine X_iald dX12_drawings_145 ht.2.2.2.1 hz ?_
      obtain ⟨hz, hF⟩ := gv_out hF
      refine X_iast dX12_drawings_146 ht.2.2.2.2.2.2.1.2.1 hz ?_
      obtain ⟨S1, qS1, hF⟩ := bnd_g hF
      refine V_eqS qS1 ?_
      obtain ⟨x2, qx2, hF⟩ := bnd_g hF
      refine B_iinc (v := 1) qx2 dX12_drawings_147 rfl (by decide) (by decide) ?_
      refine V_goto (tgt := 126) dX12_drawings_150 (by decide) ?_
      exact V_lv' (ih _ _ hF) (v_all_c rfl (v_all_c rfl v_all_n))
set_option maxRecDepth 100000 in
set_option maxHeartbeats 4000000 in
theorem s_X12_drawings {l : Launch} {s0 : State} {D : va_G} {a0 : Array Value} {sh : List Sh} {f : Nat} {S : St} {t : Nat} {p1 : Int32} (ht : isX12 sh t) {r : Int32 × St} (G : GC l s0 D a0) (hF : F_X12_drawings sh f S t p1 = some r) {d : Nat} (hd : 28 ≤ d) : Sp l s0 D d 0 0 mX12_drawings (fun v h => v = some (.int r.1) ∧ h = wd s0.heap.size sh r.2) v_noX [.ref (s0.heap.size + t), .int p1] (wd s0.heap.size sh S) := by
  obtain ⟨d, rfl⟩ : ∃ e, d = e + 1 := ⟨d - 1, by omega⟩
  refine Sp.of (by decide +kernel) rfl (Nat.le_of_ble_eq_true rfl) ?_
  unfold F_X12_drawings at hF
  refine V_aload_n dX12_drawings_0 rfl ?_
  refine V_iconst (v := 0) dX12_drawings_1 (by decide) ?_
  refine X_pI G dX12_drawings_2 gX12_147 ht.1 rfl rfl rfl ?_
  obtain ⟨S1, qS1, hF⟩ := bnd_g hF
  refine V_eqS qS1 ?_
  refine V_aload_n dX12_drawings_5 rfl ?_
  refine X_gI G dX12_drawings_6 fX12_315 ht.1 rfl ?_
  refine V_if_ne (tgt := 18) dX12_drawings_9 (by decide) (fun c => ?_) (fun c => ?_)
  · replace hF := (if_neg c).symm.trans hF
    refine V_iload_n dX12_drawings_18 rfl ?_
    refine V_iconst (v := 1) dX12_drawings_19 (by decide) ?_
    refine V_iconst (v := 3) dX12_drawings_20 (by decide) ?_
    obtain ⟨y2, hc, hF⟩ := bd hF
    refine V_callS dX12_drawings_21 kX12_242 (s_X12_in G hc (by omega)) rfl (Nat.le_of_ble_eq_true rfl) (fun _ _ _ q => q.elim) ?_
    rintro _ _ ⟨rfl, rfl⟩
    refine V_if_ne (tgt := 33) dX12_drawings_24 (by decide) (fun c => ?_) (fun c => ?_)
    · replace hF := (if_neg c).symm.trans hF
      refine V_aload_n dX12_drawings_33 rfl ?_
      refine V_aload_n dX12_drawings_34 rfl ?_
      refine X_gC G dX12_drawings_35 fX12_51 ht.1 rfl ?_
      obtain ⟨y3, hc, hF⟩ := bd hF
      refine V_callV G dX12_drawings_38 kX12_428 (wd_at ht.1) ⟨by decide, rfl⟩ (s_X12_copiesEnds ht ht.2.2.2.2.2.2.2.1 G hc (by omega)) rfl (Nat.le_of_ble_eq_true rfl) (fun _ _ _ q => q.elim) ?_
      rintro _ _ ⟨rfl, rfl⟩
      refine V_aload_n dX12_drawings_41 rfl ?_
      refine V_aload_n dX12_drawings_42 rfl ?_
      refine X_gC G dX12_drawings_43 fX12_51 ht.1 rfl ?_
      obtain ⟨y4, hc, hF⟩ := bd hF
      refine V_callV G dX12_drawings_46 kX12_432 (wd_at ht.1) ⟨by decide, rfl⟩ (s_X12_isDrawn ht ht.2.2.2.2.2.2.2.1 G hc (by omega)) rfl (Nat.le_of_ble_eq_true rfl) (fun _ _ _ q => q.elim) ?_
      rintro _ _ ⟨rfl, rfl⟩
      refine V_if_ne (tgt := 59) dX12_drawings_49 (by decide) (fun c => ?_) (fun c => ?_)
      · replace hF := (if_neg c).symm.trans hF
        refine V_aload_n dX12_drawings_59 rfl ?_
        refine V_aload_n dX12_drawings_60 rfl ?_
        refine X_gC G dX12_drawings_61 fX12_51 ht.1 rfl ?_
        refine V_iload_n dX12_drawings_64 rfl ?_
        obtain ⟨y5, hc, hF⟩ := bd hF
        refine V_callV G dX12_drawings_65 kX12_435 (wd_at ht.1) ⟨by decide, rfl⟩ (s_X12_fills ht ht.2.2.2.2.2.2.2.1 G hc (by omega)) rfl (Nat.le_of_ble_eq_true rfl) (fun _ _ _ q => q.elim) ?_
        rintro _ _ ⟨rfl, rfl⟩
        refine V_if_ne (tgt := 77) dX12_drawings_68 (by decide) (fun c => ?_) (fun c => ?_)
        · replace hF := (if_neg c).symm.trans hF
          refine V_aload_n dX12_drawings_77 rfl ?_
          refine X_gC G dX12_drawings_78 fX12_47 ht.1 rfl ?_
          refine V_iload_n dX12_drawings_81 rfl ?_
          refine X_pI G dX12_drawings_82 gX12_339 ht.2.2.2.2.2.2.1.1 rfl rfl rfl ?_
          obtain ⟨S6, qS6, hF⟩ := bnd_g hF
          refine V_eqS qS6 ?_
          refine V_aload_n dX12_drawings_85 rfl ?_
          refine X_gC G dX12_drawings_86 fX12_47 ht.1 rfl ?_
          refine V_aload_n dX12_drawings_89 rfl ?_
          refine X_gC G dX12_drawings_90 fX12_51 ht.1 rfl ?_
          refine X_gI G dX12_drawings_93 fX12_404 ht.2.2.2.2.2.2.2.1.1 rfl ?_
          refine X_pI G dX12_drawings_96 gX12_404 ht.2.2.2.2.2.2.1.1 rfl rfl rfl ?_
          obtain ⟨S7, qS7, hF⟩ := bnd_g hF
          refine V_eqS qS7 ?_
          refine V_aload_n dX12_drawings_99 rfl ?_
          refine X_gC G dX12_drawings_100 fX12_47 ht.1 rfl ?_
          refine V_aload_n dX12_drawings_103 rfl ?_
          refine X_gC G dX12_drawings_104 fX12_51 ht.1 rfl ?_
          refine X_gI G dX12_drawings_107 fX12_423 ht.2.2.2.2.2.2.2.1.1 rfl ?_
          refine X_pI G dX12_drawings_110 gX12_423 ht.2.2.2.2.2.2.1.1 rfl rfl rfl ?_
          obtain ⟨S8, qS8, hF⟩ := bnd_g hF
          refine V_eqS qS8 ?_
          refine V_aload_n dX12_drawings_113 rfl ?_
          refine X_gC G dX12_drawings_114 fX12_47 ht.1 rfl ?_
          refine V_aload_n dX12_drawings_117 rfl ?_
          refine X_gI G dX12_drawings_118 fX12_315 ht.1 rfl ?_
          refine X_pI G dX12_drawings_121 gX12_333 ht.2.2.2.2.2.2.1.1 rfl rfl rfl ?_
          obtain ⟨S9, qS9, hF⟩ := bnd_g hF
          refine V_eqS qS9 ?_
          refine V_iconst (v := 0) dX12_drawings_124 (by decide) ?_
          refine V_istore_n dX12_drawings_125 (by decide) ?_
          exact V_lv' (w_X12_drawings_L126 ht G hd f _ _ hF) (v_all_c rfl (v_all_c rfl v_all_n))
        · replace hF := (if_pos c).symm.trans hF
          refine V_aload_n dX12_drawings_71 rfl ?_
          refine V_iconst (v := 3) dX12_drawings_72 (by decide) ?_
          obtain ⟨y10, hc, hF⟩ := bd hF
          refine V_callV G dX12_drawings_73 kX12_303 (wd_at ht.1) ⟨by decide, rfl⟩ (s_X12_refused ht G hc (by omega)) rfl (Nat.le_of_ble_eq_true rfl) (fun _ _ _ q => q.elim) ?_
          rintro _ _ ⟨rfl, rfl⟩
          cases hF
          exact V_ireturn dX12_drawings_76 rfl rfl ⟨rfl, rfl⟩
      · replace hF := (if_pos c).symm.trans hF
        refine V_aload_n dX12_drawings_52 rfl ?_
        refine V_bipush (v := 7) dX12_drawings_53 (by decide) ?_
        obtain ⟨y11, hc, hF⟩ := bd hF
        refine V_callV G dX12_drawings_55 kX12_303 (wd_at ht.1) ⟨by decide, rfl⟩ (s_X12_refused ht G hc (by omega)) rfl (Nat.le_of_ble_eq_true rfl) (fun _ _ _ q => q.elim) ?_
        rintro _ _ ⟨rfl, rfl⟩
        cases hF
        exact V_ireturn dX12_drawings_58 rfl rfl ⟨rfl, rfl⟩
    · replace hF := (if_pos c).symm.trans hF
      refine V_aload_n dX12_drawings_27 rfl ?_
      refine V_iconst (v := 2) dX12_drawings_28 (by decide) ?_
      obtain ⟨y12, hc, hF⟩ := bd hF
      refine V_callV G dX12_drawings_29 kX12_303 (wd_at ht.1) ⟨by decide, rfl⟩ (s_X12_refused ht G hc (by omega)) rfl (Nat.le_of_ble_eq_true rfl) (fun _ _ _ q => q.elim) ?_
      rintro _ _ ⟨rfl, rfl⟩
      cases hF
      exact V_ireturn dX12_drawings_32 rfl rfl ⟨rfl, rfl⟩
  · replace hF := (if_pos c).symm.trans hF
    refine V_aload_n dX12_drawings_12 rfl ?_
    refine V_iconst (v := 1) dX12_drawings_13 (by decide) ?_
    obtain ⟨y13, hc, hF⟩ := bd hF
    refine V_callV G dX12_drawings_14 kX12_303 (wd_at ht.1) ⟨by decide, rfl⟩ (s_X12_refused ht G hc (by omega)) rfl (Nat.le_of_ble_eq_true rfl) (fun _ _ _ q => q.elim) ?_
    rintro _ _ ⟨rfl, rfl⟩
    cases hF
    exact V_ireturn dX12_drawings_17 rfl rfl ⟨rfl, rfl⟩
set_option maxRecDepth 100000 in
set_option maxHeartbeats 4000000 in
theorem s_X12_isDrawing {l : Launch} {s0 : State} {D : va_G} {a0 : Array Value} {sh : List Sh} {f : Nat} {S : St} {t : Nat} {p1 : Int32} (ht : isX12 sh t) {r : Int32} (G : GC l s0 D a0) (hF : F_X12_isDrawing sh f S t p1 = some r) {d : Nat} (hd : 1 ≤ d) : Sp l s0 D d 0 0 mX12_isDrawing (fun v h => v = some (.int r) ∧ h = wd s0.heap.size sh S) v_noX [.ref (s0.heap.size + t), .int p1] (wd s0.heap.size sh S) := by
  obtain ⟨d, rfl⟩ : ∃ e, d = e + 1 := ⟨d - 1, by omega⟩
  refine Sp.of (by decide +kernel) rfl (Nat.le_of_ble_eq_true rfl) ?_
  unfold F_X12_isDrawing at hF
  refine V_aload_n dX12_isDrawing_0 rfl ?_
  refine X_gI G dX12_isDrawing_1 fX12_318 ht.1 rfl ?_
  refine V_if_eq (tgt := 26) dX12_isDrawing_4 (by decide) (fun c => ?_) (fun c => ?_)
  · replace hF := (if_pos c).symm.trans hF
    refine V_iconst (v := 0) dX12_isDrawing_26 (by decide) ?_
    cases hF
    exact V_ireturn dX12_isDrawing_27 rfl (by decide) ⟨rfl, rfl⟩
  · replace hF := (if_neg c).symm.trans hF
    refine V_iload_n dX12_isDrawing_7 rfl ?_
    refine V_if_lt (tgt := 26) dX12_isDrawing_8 (by decide) (fun c => ?_) (fun c => ?_)
    · replace hF := (if_pos c).symm.trans hF
      refine V_iconst (v := 0) dX12_isDrawing_26 (by decide) ?_
      cases hF
      exact V_ireturn dX12_isDrawing_27 rfl (by decide) ⟨rfl, rfl⟩
    · replace hF := (if_neg c).symm.trans hF
      refine V_iload_n dX12_isDrawing_11 rfl ?_
      refine V_aload_n dX12_isDrawing_12 rfl ?_
      refine X_gC G dX12_isDrawing_13 fX12_47 ht.1 rfl ?_
      refine X_gI G dX12_isDrawing_16 fX12_404 ht.2.2.2.2.2.2.1.1 rfl ?_
      refine V_icmp_ge (tgt := 26) dX12_isDrawing_19 (by decide) (fun c => ?_) (fun c => ?_)
      · replace hF := (if_pos c).symm.trans hF
        refine V_iconst (v := 0) dX12_isDrawing_26 (by decide) ?_
        cases hF
        exact V_ireturn dX12_isDrawing_27 rfl (by decide) ⟨rfl, rfl⟩
      · replace hF := (if_neg c).symm.trans hF
        refine V_iconst (v := 1) dX12_isDrawing_22 (by decide) ?_
        refine V_goto (tgt := 27) dX12_isDrawing_23 (by decide) ?_
        cases hF
        exact V_ireturn dX12_isDrawing_27 rfl (by decide) ⟨rfl, rfl⟩
set_option maxRecDepth 100000 in
set_option maxHeartbeats 4000000 in
theorem s_X12_shows {l : Launch} {s0 : State} {D : va_G} {a0 : Array Value} {sh : List Sh} {f : Nat} {S : St} {t : Nat} {p1 : Nat} {p2 : Int32} (ht : isX12 sh t) (hp1 : isX10 sh p1) {r : St} (G : GC l s0 D a0) (hF : F_X12_shows sh f S t p1 p2 = some r) {d : Nat} (hd : 3 ≤ d) : Sp l s0 D d 0 0 mX12_shows (fun v h => v = none ∧ h = wd s0.heap.size sh r) v_noX [.ref (s0.heap.size + t), .ref (s0.heap.size + p1), .int p2] (wd s0.heap.size sh S) := by
  obtain ⟨d, rfl⟩ : ∃ e, d = e + 1 := ⟨d - 1, by omega⟩
  refine Sp.of (by decide +kernel) rfl (Nat.le_of_ble_eq_true rfl) ?_
  unfold F_X12_shows at hF
  refine V_aload_n dX12_shows_0 rfl ?_
  refine V_aload_n dX12_shows_1 rfl ?_
  refine V_aload_n dX12_shows_2 rfl ?_
  refine X_gC G dX12_shows_3 fX12_407 hp1.1 rfl ?_
  refine V_iconst (v := 3) dX12_shows_6 (by decide) ?_
  refine V_iload_n dX12_shows_7 rfl ?_
  refine V_imul dX12_shows_8 ?_
  obtain ⟨y1, hc, hF⟩ := bd hF
  refine V_callV G dX12_shows_9 kX12_393 (wd_at ht.1) ⟨by decide, rfl⟩ (s_X12_lays ht hp1 hp1.2.2.2.1 G hc (by omega)) rfl (Nat.le_of_ble_eq_true rfl) (fun _ _ _ q => q.elim) ?_
  rintro _ _ ⟨rfl, rfl⟩
  obtain ⟨x2, qx2, hF⟩ := bnd_g hF
  refine B_istore_n qx2 dX12_shows_12 (by decide) ?_
  refine V_aload_n dX12_shows_13 rfl ?_
  refine V_aload_n dX12_shows_14 rfl ?_
  refine X_gC G dX12_shows_15 fX12_410 hp1.1 rfl ?_
  refine V_iload_n dX12_shows_18 rfl ?_
  obtain ⟨hz, hF⟩ := gv_out hF
  refine X_lald dX12_shows_19 hp1.2.2.2.2.2.2 hz ?_
  obtain ⟨y3, hc, hF⟩ := bd hF
  refine V_callV G dX12_shows_20 kX12_366 (wd_at ht.1) ⟨by decide, rfl⟩ (s_X12_takes ht G hc (by omega)) rfl (Nat.le_of_ble_eq_true rfl) (fun _ _ _ q => q.elim) ?_
  rintro _ _ ⟨rfl, rfl⟩
  cases hF
  exact V_return dX12_shows_23 rfl ⟨rfl, rfl⟩
set_option maxRecDepth 100000 in
set_option maxHeartbeats 4000000 in
theorem s_X12_isInner {l : Launch} {s0 : State} {D : va_G} {a0 : Array Value} {sh : List Sh} {f : Nat} {S : St} {t : Nat} {p1 : Int32} (ht : isX12 sh t) {r : Int32} (G : GC l s0 D a0) (hF : F_X12_isInner sh f S t p1 = some r) {d : Nat} (hd : 1 ≤ d) : Sp l s0 D d 0 0 mX12_isInner (fun v h => v = some (.int r) ∧ h = wd s0.heap.size sh S) v_noX [.ref (s0.heap.size + t), .int p1] (wd s0.heap.size sh S) := by
  obtain ⟨d, rfl⟩ : ∃ e, d = e + 1 := ⟨d - 1, by omega⟩
  refine Sp.of (by decide +kernel) rfl (Nat.le_of_ble_eq_true rfl) ?_
  unfold F_X12_isInner at hF
  refine V_aload_n dX12_isInner_0 rfl ?_
  refine X_gC G dX12_isInner_1 fX12_60 ht.1 rfl ?_
  refine V_iload_n dX12_isInner_4 rfl ?_
  obtain ⟨hz, hF⟩ := gv_out hF
  refine X_iald dX12_isInner_5 ht.2.2.2.2.2.2.2.2.2.2.1 hz ?_
  refine V_aload_n dX12_isInner_6 rfl ?_
  refine X_gI G dX12_isInner_7 fX12_342 ht.1 rfl ?_
  refine V_aload_n dX12_isInner_10 rfl ?_
  refine X_gI G dX12_isInner_11 fX12_439 ht.1 rfl ?_
  refine V_isub dX12_isInner_14 ?_
  refine V_icmp_lt (tgt := 55) dX12_isInner_15 (by decide) (fun c => ?_) (fun c => ?_)
  · replace hF := (if_pos c).symm.trans hF
    refine V_iconst (v := 0) dX12_isInner_55 (by decide) ?_
    cases hF
    exact V_ireturn dX12_isInner_56 rfl (by decide) ⟨rfl, rfl⟩
  · replace hF := (if_neg c).symm.trans hF
    refine V_aload_n dX12_isInner_18 rfl ?_
    refine X_gC G dX12_isInner_19 fX12_60 ht.1 rfl ?_
    refine V_aload_n dX12_isInner_22 rfl ?_
    refine X_gC G dX12_isInner_23 fX12_63 ht.1 rfl ?_
    refine V_iload_n dX12_isInner_26 rfl ?_
    obtain ⟨hz, hF⟩ := gv_out hF
    refine X_iald dX12_isInner_27 ht.2.2.2.2.2.2.2.2.2.2.2.1 hz ?_
    obtain ⟨hz, hF⟩ := gv_out hF
    refine X_iald dX12_isInner_28 ht.2.2.2.2.2.2.2.2.2.2.1 hz ?_
    refine V_aload_n dX12_isInner_29 rfl ?_
    refine X_gI G dX12_isInner_30 fX12_342 ht.1 rfl ?_
    refine V_aload_n dX12_isInner_33 rfl ?_
    refine X_gI G dX12_isInner_34 fX12_439 ht.1 rfl ?_
    refine V_isub dX12_isInner_37 ?_
    refine V_icmp_lt (tgt := 55) dX12_isInner_38 (by decide) (fun c => ?_) (fun c => ?_)
    · replace hF := (if_pos c).symm.trans hF
      refine V_iconst (v := 0) dX12_isInner_55 (by decide) ?_
      cases hF
      exact V_ireturn dX12_isInner_56 rfl (by decide) ⟨rfl, rfl⟩
    · replace hF := (if_neg c).symm.trans hF
      refine V_aload_n dX12_isInner_41 rfl ?_
      refine X_gC G dX12_isInner_42 fX12_63 ht.1 rfl ?_
      refine V_iload_n dX12_isInner_45 rfl ?_
      obtain ⟨hz, hF⟩ := gv_out hF
      refine X_iald dX12_isInner_46 ht.2.2.2.2.2.2.2.2.2.2.2.1 hz ?_
      refine V_iload_n dX12_isInner_47 rfl ?_
      refine V_icmp_le (tgt := 55) dX12_isInner_48 (by decide) (fun c => ?_) (fun c => ?_)
      · replace hF := (if_pos c).symm.trans hF
        refine V_iconst (v := 0) dX12_isInner_55 (by decide) ?_
        cases hF
        exact V_ireturn dX12_isInner_56 rfl (by decide) ⟨rfl, rfl⟩
      · replace hF := (if_neg c).symm.trans hF
        refine V_iconst (v := 1) dX12_isInner_51 (by decide) ?_
        refine V_goto (tgt := 56) dX12_isInner_52 (by decide) ?_
        cases hF
        exact V_ireturn dX12_isInner_56 rfl (by decide) ⟨rfl, rfl⟩
set_option maxRecDepth 100000 in
set_option maxHeartbeats 4000000 in
theorem w_X12_inners_L4 {l : Launch} {s0 : State} {D : va_G} {a0 : Array Value} {sh : List Sh} {f : Nat} {S : St} {t : Nat} (ht : isX12 sh t) {r : Int32} {d : Nat} (G : GC l s0 D a0) (hd : 2 ≤ d + 1) : ∀ (n : Nat) (l1 : Int32) (l2 : Int32), F_X12_inners_L4 sh f S t n l1 l2 = some r → V l s0 D (d + 1) 0 0 mX12_inners (fun v h => v = some (.int r) ∧ h = wd s0.heap.size sh S) v_noX 4 [(0, .ref (s0.heap.size + t)), (1, .int l1), (2, .int l2)] [] (wd s0.heap.size sh S) := by
  intro n
  induction n with
  | zero => intro l1 l2 hF; cases hF
  | succ n ih =>
    intro l1 l2 hF
    unfold F_X12_inners_L4 at hF
    refine V_iload_n dX12_inners_4 rfl ?_
    refine V_aload_n dX12_inners_5 rfl ?_
    refine X_gI G dX12_inners_6 fX12_331 ht.1 rfl ?_
    refine V_icmp_ge (tgt := 34) dX12_inners_9 (by decide) (fun c => ?_) (fun c => ?_)
    · replace hF := (if_pos c).symm.trans hF
      refine V_iload_n dX12_inners_34 rfl ?_
      cases hF
      exact V_ireturn dX12_inners_35 rfl rfl ⟨rfl, rfl⟩
    · replace hF := (if_neg c).symm.trans hF
      refine V_iload_n dX12_inners_12 rfl ?_
      refine V_aload_n dX12_inners_13 rfl ?_
      refine V_iload_n dX12_inners_14 rfl ?_
      obtain ⟨y1, hc, hF⟩ := bd hF
      refine V_callV G dX12_inners_15 kX12_442 (wd_at ht.1) ⟨by decide, rfl⟩ (s_X12_isInner ht G hc (by omega)) rfl (Nat.le_of_ble_eq_true rfl) (fun _ _ _ q => q.elim) ?_
      rintro _ _ ⟨rfl, rfl⟩
      refine V_if_eq (tgt := 25) dX12_inners_18 (by decide) (fun c => ?_) (fun c => ?_)
      · replace hF := (if_pos c).symm.trans hF
        refine V_iconst (v := 0) dX12_inners_25 (by decide) ?_
        refine V_iadd dX12_inners_26 ?_
        obtain ⟨x2, qx2, hF⟩ := bnd_g hF
        refine B_istore_n qx2 dX12_inners_27 (by decide) ?_
        obtain ⟨x3, qx3, hF⟩ := bnd_g hF
        refine B_iinc (v := 1) qx3 dX12_inners_28 rfl (by decide) (by decide) ?_
        refine V_goto (tgt := 4) dX12_inners_31 (by decide) ?_
        exact V_lv' (ih _ _ hF) (v_all_c rfl (v_all_c rfl (v_all_c rfl v_all_n)))
      · replace hF := (if_neg c).symm.trans hF
        refine V_iconst (v := 1) dX12_inners_21 (by decide) ?_
        refine V_goto (tgt := 26) dX12_inners_22 (by decide) ?_
        refine V_iadd dX12_inners_26 ?_
        obtain ⟨x4, qx4, hF⟩ := bnd_g hF
        refine B_istore_n qx4 dX12_inners_27 (by decide) ?_
        obtain ⟨x5, qx5, hF⟩ := bnd_g hF
        refine B_iinc (v := 1) qx5 dX12_inners_28 rfl (by decide) (by decide) ?_
        refine V_goto (tgt := 4) dX12_inners_31 (by decide) ?_
        exact V_lv' (ih _ _ hF) (v_all_c rfl (v_all_c rfl (v_all_c rfl v_all_n)))
set_option maxRecDepth 100000 in
set_option maxHeartbeats 4000000 in
theorem s_X12_inners {l : Launch} {s0 : State} {D : va_G} {a0 : Array Value} {sh : List Sh} {f : Nat} {S : St} {t : Nat} (ht : isX12 sh t) {r : Int32} (G : GC l s0 D a0) (hF : F_X12_inners sh f S t = some r) {d : Nat} (hd : 2 ≤ d) : Sp l s0 D d 0 0 mX12_inners (fun v h => v = some (.int r) ∧ h = wd s0.heap.size sh S) v_noX [.ref (s0.heap.size + t)] (wd s0.heap.size sh S) := by
  obtain ⟨d, rfl⟩ : ∃ e, d = e + 1 := ⟨d - 1, by omega⟩
  refine Sp.of (by decide +kernel) rfl (Nat.le_of_ble_eq_true rfl) ?_
  unfold F_X12_inners at hF
  refine V_iconst (v := 0) dX12_inners_0 (by decide) ?_
  refine V_istore_n dX12_inners_1 (by decide) ?_
  refine V_iconst (v := 0) dX12_inners_2 (by decide) ?_
  refine V_istore_n dX12_inners_3 (by decide) ?_
  exact V_lv' (w_X12_inners_L4 ht G hd f _ _ hF) (v_all_c rfl (v_all_c rfl (v_all_c rfl v_all_n)))
set_option maxRecDepth 100000 in
set_option maxHeartbeats 4000000 in
theorem w_X12_sideOf_L23 {l : Launch} {s0 : State} {D : va_G} {a0 : Array Value} {sh : List Sh} {f : Nat} {t : Nat} {p1 : Int32} (ht : isX12 sh t) {r : Int32 × St} {d : Nat} (G : GC l s0 D a0) (hd : 3 ≤ d + 1) : ∀ (n : Nat) (S : St) (l2 : Int32) (l3 : Int32), F_X12_sideOf_L23 sh f t p1 n S l2 l3 = some r → V l s0 D (d + 1) 0 0 mX12_sideOf (fun v h => v = some (.int r.1) ∧ h = wd s0.heap.size sh r.2) v_noX 23 [(0, .ref (s0.heap.size + t)), (2, .int l2), (3, .int l3)] [] (wd s0.heap.size sh S) := by
  intro n
  induction n with
  | zero => intro S l2 l3 hF; cases hF
  | succ n ih =>
    intro S l2 l3 hF
    unfold F_X12_sideOf_L23 at hF
    refine V_iload_n dX12_sideOf_23 rfl ?_
    refine V_aload_n dX12_sideOf_24 rfl ?_
    refine X_gI G dX12_sideOf_25 fX12_342 ht.1 rfl ?_
    refine V_aload_n dX12_sideOf_28 rfl ?_
    refine X_gI G dX12_sideOf_29 fX12_439 ht.1 rfl ?_
    refine V_isub dX12_sideOf_32 ?_
    refine V_icmp_ge (tgt := 67) dX12_sideOf_33 (by decide) (fun c => ?_) (fun c => ?_)
    · replace hF := (if_pos c).symm.trans hF
      refine V_iload_n dX12_sideOf_67 rfl ?_
      cases hF
      exact V_ireturn dX12_sideOf_68 rfl rfl ⟨rfl, rfl⟩
    · replace hF := (if_neg c).symm.trans hF
      refine V_iload_n dX12_sideOf_36 rfl ?_
      refine V_aload_n dX12_sideOf_37 rfl ?_
      refine X_gC G dX12_sideOf_38 fX12_69 ht.1 rfl ?_
      refine V_iload_n dX12_sideOf_41 rfl ?_
      obtain ⟨hz, hF⟩ := gv_out hF
      refine X_iald dX12_sideOf_42 ht.2.2.2.2.2.2.2.2.2.2.2.2.2.1 hz ?_
      refine V_aload_n dX12_sideOf_43 rfl ?_
      refine X_gC G dX12_sideOf_44 fX12_69 ht.1 rfl ?_
      refine V_iconst (v := 0) dX12_sideOf_47 (by decide) ?_
      obtain ⟨hz, hF⟩ := gv_out hF
      refine X_iald dX12_sideOf_48 ht.2.2.2.2.2.2.2.2.2.2.2.2.2.1 hz ?_
      refine V_icmp_ne (tgt := 58) dX12_sideOf_49 (by decide) (fun c => ?_) (fun c => ?_)
      · replace hF := (if_neg c).symm.trans hF
        refine V_iconst (v := 0) dX12_sideOf_58 (by decide) ?_
        refine V_ior dX12_sideOf_59 ?_
        obtain ⟨x1, qx1, hF⟩ := bnd_g hF
        refine B_istore_n qx1 dX12_sideOf_60 (by decide) ?_
        obtain ⟨x2, qx2, hF⟩ := bnd_g hF
        refine B_iinc (v := 1) qx2 dX12_sideOf_61 rfl (by decide) (by decide) ?_
        refine V_goto (tgt := 23) dX12_sideOf_64 (by decide) ?_
        exact V_lv' (ih _ _ _ hF) (v_all_c rfl (v_all_c rfl (v_all_c rfl v_all_n)))
      · replace hF := (if_pos c).symm.trans hF
        refine V_iconst (v := 1) dX12_sideOf_52 (by decide) ?_
        refine V_iload_n dX12_sideOf_53 rfl ?_
        refine V_ishl dX12_sideOf_54 ?_
        refine V_goto (tgt := 59) dX12_sideOf_55 (by decide) ?_
        refine V_ior dX12_sideOf_59 ?_
        obtain ⟨x3, qx3, hF⟩ := bnd_g hF
        refine B_istore_n qx3 dX12_sideOf_60 (by decide) ?_
        obtain ⟨x4, qx4, hF⟩ := bnd_g hF
        refine B_iinc (v := 1) qx4 dX12_sideOf_61 rfl (by decide) (by decide) ?_
        refine V_goto (tgt := 23) dX12_sideOf_64 (by decide) ?_
        exact V_lv' (ih _ _ _ hF) (v_all_c rfl (v_all_c rfl (v_all_c rfl v_all_n)))
set_option maxRecDepth 100000 in
set_option maxHeartbeats 4000000 in
theorem s_X12_sideOf {l : Launch} {s0 : State} {D : va_G} {a0 : Array Value} {sh : List Sh} {f : Nat} {S : St} {t : Nat} {p1 : Int32} (ht : isX12 sh t) {r : Int32 × St} (G : GC l s0 D a0) (hF : F_X12_sideOf sh f S t p1 = some r) {d : Nat} (hd : 3 ≤ d) : Sp l s0 D d 0 0 mX12_sideOf (fun v h => v = some (.int r.1) ∧ h = wd s0.heap.size sh r.2) v_noX [.ref (s0.heap.size + t), .int p1] (wd s0.heap.size sh S) := by
  obtain ⟨d, rfl⟩ : ∃ e, d = e + 1 := ⟨d - 1, by omega⟩
  refine Sp.of (by decide +kernel) rfl (Nat.le_of_ble_eq_true rfl) ?_
  unfold F_X12_sideOf at hF
  refine V_aload_n dX12_sideOf_0 rfl ?_
  refine V_iload_n dX12_sideOf_1 rfl ?_
  obtain ⟨y1, hc, hF⟩ := bd hF
  refine V_callV G dX12_sideOf_2 kX12_442 (wd_at ht.1) ⟨by decide, rfl⟩ (s_X12_isInner ht G hc (by omega)) rfl (Nat.le_of_ble_eq_true rfl) (fun _ _ _ q => q.elim) ?_
  rintro _ _ ⟨rfl, rfl⟩
  refine V_if_eq (tgt := 17) dX12_sideOf_5 (by decide) (fun c => ?_) (fun c => ?_)
  · replace hF := (if_pos c).symm.trans hF
    refine V_iconst (v := -1) dX12_sideOf_17 (by decide) ?_
    cases hF
    exact V_ireturn dX12_sideOf_18 rfl rfl ⟨rfl, rfl⟩
  · replace hF := (if_neg c).symm.trans hF
    refine V_aload_n dX12_sideOf_8 rfl ?_
    refine V_iload_n dX12_sideOf_9 rfl ?_
    obtain ⟨y2, hc, hF⟩ := bd hF
    refine V_callV G dX12_sideOf_10 kX12_359 (wd_at ht.1) ⟨by decide, rfl⟩ (s_X12_sets ht G hc (by omega)) rfl (Nat.le_of_ble_eq_true rfl) (fun _ _ _ q => q.elim) ?_
    rintro _ _ ⟨rfl, rfl⟩
    refine V_iconst (v := 2) dX12_sideOf_13 (by decide) ?_
    refine V_icmp_ge (tgt := 19) dX12_sideOf_14 (by decide) (fun c => ?_) (fun c => ?_)
    · replace hF := (if_pos c).symm.trans hF
      refine V_iconst (v := 0) dX12_sideOf_19 (by decide) ?_
      refine V_istore_n dX12_sideOf_20 (by decide) ?_
      refine V_iconst (v := 0) dX12_sideOf_21 (by decide) ?_
      refine V_istore_n dX12_sideOf_22 (by decide) ?_
      exact V_lv' (w_X12_sideOf_L23 ht G hd f _ _ _ hF) (v_all_c rfl (v_all_c rfl (v_all_c rfl v_all_n)))
    · replace hF := (if_neg c).symm.trans hF
      refine V_iconst (v := -1) dX12_sideOf_17 (by decide) ?_
      cases hF
      exact V_ireturn dX12_sideOf_18 rfl rfl ⟨rfl, rfl⟩
set_option maxRecDepth 100000 in
set_option maxHeartbeats 4000000 in
theorem w_X12_cuts_L4 {l : Launch} {s0 : State} {D : va_G} {a0 : Array Value} {sh : List Sh} {f : Nat} {t : Nat} (ht : isX12 sh t) {r : Int32 × St} {d : Nat} (G : GC l s0 D a0) (hd : 4 ≤ d + 1) : ∀ (n : Nat) (S : St) (l1 : Int32) (l2 : Int32), F_X12_cuts_L4 sh f t n S l1 l2 = some r → V l s0 D (d + 1) 0 0 mX12_cuts (fun v h => v = some (.int r.1) ∧ h = wd s0.heap.size sh r.2) v_noX 4 [(0, .ref (s0.heap.size + t)), (1, .int l1), (2, .int l2)] [] (wd s0.heap.size sh S) := by
  intro n
  induction n with
  | zero => intro S l1 l2 hF; cases hF
  | succ n ih =>
    intro S l1 l2 hF
    unfold F_X12_cuts_L4 at hF
    refine V_iload_n dX12_cuts_4 rfl ?_
    refine V_aload_n dX12_cuts_5 rfl ?_
    refine X_gI G dX12_cuts_6 fX12_331 ht.1 rfl ?_
    refine V_icmp_ge (tgt := 35) dX12_cuts_9 (by decide) (fun c => ?_) (fun c => ?_)
    · replace hF := (if_pos c).symm.trans hF
      refine V_iload_n dX12_cuts_35 rfl ?_
      cases hF
      exact V_ireturn dX12_cuts_36 rfl rfl ⟨rfl, rfl⟩
    · replace hF := (if_neg c).symm.trans hF
      refine V_iload_n dX12_cuts_12 rfl ?_
      refine V_aload_n dX12_cuts_13 rfl ?_
      refine V_iload_n dX12_cuts_14 rfl ?_
      obtain ⟨y1, hc, hF⟩ := bd hF
      refine V_callV G dX12_cuts_15 kX12_445 (wd_at ht.1) ⟨by decide, rfl⟩ (s_X12_sideOf ht G hc (by omega)) rfl (Nat.le_of_ble_eq_true rfl) (fun _ _ _ q => q.elim) ?_
      rintro _ _ ⟨rfl, rfl⟩
      refine V_iconst (v := -1) dX12_cuts_18 (by decide) ?_
      refine V_icmp_eq (tgt := 26) dX12_cuts_19 (by decide) (fun c => ?_) (fun c => ?_)
      · replace hF := (if_pos c).symm.trans hF
        refine V_iconst (v := 0) dX12_cuts_26 (by decide) ?_
        refine V_iadd dX12_cuts_27 ?_
        obtain ⟨x2, qx2, hF⟩ := bnd_g hF
        refine B_istore_n qx2 dX12_cuts_28 (by decide) ?_
        obtain ⟨x3, qx3, hF⟩ := bnd_g hF
        refine B_iinc (v := 1) qx3 dX12_cuts_29 rfl (by decide) (by decide) ?_
        refine V_goto (tgt := 4) dX12_cuts_32 (by decide) ?_
        exact V_lv' (ih _ _ _ hF) (v_all_c rfl (v_all_c rfl (v_all_c rfl v_all_n)))
      · replace hF := (if_neg c).symm.trans hF
        refine V_iconst (v := 1) dX12_cuts_22 (by decide) ?_
        refine V_goto (tgt := 27) dX12_cuts_23 (by decide) ?_
        refine V_iadd dX12_cuts_27 ?_
        obtain ⟨x4, qx4, hF⟩ := bnd_g hF
        refine B_istore_n qx4 dX12_cuts_28 (by decide) ?_
        obtain ⟨x5, qx5, hF⟩ := bnd_g hF
        refine B_iinc (v := 1) qx5 dX12_cuts_29 rfl (by decide) (by decide) ?_
        refine V_goto (tgt := 4) dX12_cuts_32 (by decide) ?_
        exact V_lv' (ih _ _ _ hF) (v_all_c rfl (v_all_c rfl (v_all_c rfl v_all_n)))
set_option maxRecDepth 100000 in
set_option maxHeartbeats 4000000 in
theorem s_X12_cuts {l : Launch} {s0 : State} {D : va_G} {a0 : Array Value} {sh : List Sh} {f : Nat} {S : St} {t : Nat} (ht : isX12 sh t) {r : Int32 × St} (G : GC l s0 D a0) (hF : F_X12_cuts sh f S t = some r) {d : Nat} (hd : 4 ≤ d) : Sp l s0 D d 0 0 mX12_cuts (fun v h => v = some (.int r.1) ∧ h = wd s0.heap.size sh r.2) v_noX [.ref (s0.heap.size + t)] (wd s0.heap.size sh S) := by
  obtain ⟨d, rfl⟩ : ∃ e, d = e + 1 := ⟨d - 1, by omega⟩
  refine Sp.of (by decide +kernel) rfl (Nat.le_of_ble_eq_true rfl) ?_
  unfold F_X12_cuts at hF
  refine V_iconst (v := 0) dX12_cuts_0 (by decide) ?_
  refine V_istore_n dX12_cuts_1 (by decide) ?_
  refine V_iconst (v := 0) dX12_cuts_2 (by decide) ?_
  refine V_istore_n dX12_cuts_3 (by decide) ?_
  exact V_lv' (w_X12_cuts_L4 ht G hd f _ _ _ hF) (v_all_c rfl (v_all_c rfl (v_all_c rfl v_all_n)))
set_option maxRecDepth 100000 in
set_option maxHeartbeats 4000000 in
theorem s_X12_isHalf {l : Launch} {s0 : State} {D : va_G} {a0 : Array Value} {sh : List Sh} {f : Nat} {S : St} {t : Nat} {p1 : Int32} (ht : isX12 sh t) {r : Int32} (G : GC l s0 D a0) (hF : F_X12_isHalf sh f S t p1 = some r) {d : Nat} (hd : 1 ≤ d) : Sp l s0 D d 0 0 mX12_isHalf (fun v h => v = some (.int r) ∧ h = wd s0.heap.size sh S) v_noX [.ref (s0.heap.size + t), .int p1] (wd s0.heap.size sh S) := by
  obtain ⟨d, rfl⟩ : ∃ e, d = e + 1 := ⟨d - 1, by omega⟩
  refine Sp.of (by decide +kernel) rfl (Nat.le_of_ble_eq_true rfl) ?_
  unfold F_X12_isHalf at hF
  refine V_aload_n dX12_isHalf_0 rfl ?_
  obtain ⟨b1, hrb1, hF⟩ := bd hF
  obtain ⟨hb1, hF⟩ := gv_in hF
  replace hb1 := ckX9_ok hb1
  refine X_gR G dX12_isHalf_1 fX12_312 ht.1 rfl hrb1 ?_
  refine X_gC G dX12_isHalf_4 fX12_250 hb1.1 rfl ?_
  refine V_aload_n dX12_isHalf_7 rfl ?_
  refine X_gC G dX12_isHalf_8 fX12_57 ht.1 rfl ?_
  refine V_iload_n dX12_isHalf_11 rfl ?_
  obtain ⟨hz, hF⟩ := gv_out hF
  refine X_iald dX12_isHalf_12 ht.2.2.2.2.2.2.2.2.2.1 hz ?_
  obtain ⟨hz, hF⟩ := gv_out hF
  refine X_iald dX12_isHalf_13 hb1.2.2.2.2.2.1 hz ?_
  refine V_iconst (v := 2) dX12_isHalf_14 (by decide) ?_
  refine V_icmp_ne (tgt := 22) dX12_isHalf_15 (by decide) (fun c => ?_) (fun c => ?_)
  · replace hF := (if_neg c).symm.trans hF
    refine V_iconst (v := 0) dX12_isHalf_22 (by decide) ?_
    cases hF
    exact V_ireturn dX12_isHalf_23 rfl (by decide) ⟨rfl, rfl⟩
  · replace hF := (if_pos c).symm.trans hF
    refine V_iconst (v := 1) dX12_isHalf_18 (by decide) ?_
    refine V_goto (tgt := 23) dX12_isHalf_19 (by decide) ?_
    cases hF
    exact V_ireturn dX12_isHalf_23 rfl (by decide) ⟨rfl, rfl⟩
set_option maxRecDepth 100000 in
set_option maxHeartbeats 4000000 in
theorem w_X12_signHere_L57 {l : Launch} {s0 : State} {D : va_G} {a0 : Array Value} {sh : List Sh} {f : Nat} {S : St} {t : Nat} (ht : isX12 sh t) {r : Int32} {d : Nat} (G : GC l s0 D a0) (hd : 2 ≤ d + 1) {k4 : Int32 → Int32 → Option (Int32)} (hk4 : ∀ (l1 : Int32) (l2 : Int32), k4 l1 l2 = some r → V l s0 D (d + 1) 0 0 mX12_signHere (fun v h => v = some (.int r) ∧ h = wd s0.heap.size sh S) v_noX 4 [(0, .ref (s0.heap.size + t)), (1, .int l1), (2, .int l2)] [] (wd s0.heap.size sh S)) : ∀ (n : Nat) (l1 : Int32) (l2 : Int32) (l3 : Int32), F_X12_signHere_L57 sh f S t k4 n l1 l2 l3 = some r → V l s0 D (d + 1) 0 0 mX12_signHere (fun v h => v = some (.int r) ∧ h = wd s0.heap.size sh S) v_noX 57 [(0, .ref (s0.heap.size + t)), (1, .int l1), (2, .int l2), (3, .int l3)] [] (wd s0.heap.size sh S) := by
  intro n
  induction n with
  | zero => intro l1 l2 l3 hF; cases hF
  | succ n ih =>
    intro l1 l2 l3 hF
    unfold F_X12_signHere_L57 at hF
    refine V_iload_n dX12_signHere_57 rfl ?_
    refine V_aload_n dX12_signHere_58 rfl ?_
    refine X_gC G dX12_signHere_59 fX12_63 ht.1 rfl ?_
    refine V_iload_n dX12_signHere_62 rfl ?_
    obtain ⟨hz, hF⟩ := gv_out hF
    refine X_iald dX12_signHere_63 ht.2.2.2.2.2.2.2.2.2.2.2.1 hz ?_
    refine V_icmp_ge (tgt := 99) dX12_signHere_64 (by decide) (fun c => ?_) (fun c => ?_)
    · replace hF := (if_pos c).symm.trans hF
      obtain ⟨x1, qx1, hF⟩ := bnd_g hF
      refine B_iinc (v := 1) qx1 dX12_signHere_99 rfl (by decide) (by decide) ?_
      refine V_goto (tgt := 4) dX12_signHere_102 (by decide) ?_
      exact V_lv' (hk4 _ _ hF) (v_all_c rfl (v_all_c rfl (v_all_c rfl v_all_n)))
    · replace hF := (if_neg c).symm.trans hF
      refine V_aload_n dX12_signHere_67 rfl ?_
      refine V_iload_n dX12_signHere_68 rfl ?_
      obtain ⟨y2, hc, hF⟩ := bd hF
      refine V_callV G dX12_signHere_69 kX12_448 (wd_at ht.1) ⟨by decide, rfl⟩ (s_X12_isHalf ht G hc (by omega)) rfl (Nat.le_of_ble_eq_true rfl) (fun _ _ _ q => q.elim) ?_
      rintro _ _ ⟨rfl, rfl⟩
      refine V_if_eq (tgt := 93) dX12_signHere_72 (by decide) (fun c => ?_) (fun c => ?_)
      · replace hF := (if_pos c).symm.trans hF
        obtain ⟨x3, qx3, hF⟩ := bnd_g hF
        refine B_iinc (v := 1) qx3 dX12_signHere_93 rfl (by decide) (by decide) ?_
        refine V_goto (tgt := 57) dX12_signHere_96 (by decide) ?_
        exact V_lv' (ih _ _ _ hF) (v_all_c rfl (v_all_c rfl (v_all_c rfl (v_all_c rfl v_all_n))))
      · replace hF := (if_neg c).symm.trans hF
        refine V_aload_n dX12_signHere_75 rfl ?_
        refine X_gC G dX12_signHere_76 fX12_63 ht.1 rfl ?_
        refine V_iload_n dX12_signHere_79 rfl ?_
        obtain ⟨hz, hF⟩ := gv_out hF
        refine X_iald dX12_signHere_80 ht.2.2.2.2.2.2.2.2.2.2.2.1 hz ?_
        refine V_aload_n dX12_signHere_81 rfl ?_
        refine X_gC G dX12_signHere_82 fX12_63 ht.1 rfl ?_
        refine V_iload_n dX12_signHere_85 rfl ?_
        obtain ⟨hz, hF⟩ := gv_out hF
        refine X_iald dX12_signHere_86 ht.2.2.2.2.2.2.2.2.2.2.2.1 hz ?_
        refine V_icmp_le (tgt := 93) dX12_signHere_87 (by decide) (fun c => ?_) (fun c => ?_)
        · replace hF := (if_pos c).symm.trans hF
          obtain ⟨x4, qx4, hF⟩ := bnd_g hF
          refine B_iinc (v := 1) qx4 dX12_signHere_93 rfl (by decide) (by decide) ?_
          refine V_goto (tgt := 57) dX12_signHere_96 (by decide) ?_
          exact V_lv' (ih _ _ _ hF) (v_all_c rfl (v_all_c rfl (v_all_c rfl (v_all_c rfl v_all_n))))
        · replace hF := (if_neg c).symm.trans hF
          refine V_iload_n dX12_signHere_90 rfl ?_
          refine V_ineg dX12_signHere_91 ?_
          obtain ⟨x5, qx5, hF⟩ := bnd_g hF
          refine B_istore_n qx5 dX12_signHere_92 (by decide) ?_
          obtain ⟨x6, qx6, hF⟩ := bnd_g hF
          refine B_iinc (v := 1) qx6 dX12_signHere_93 rfl (by decide) (by decide) ?_
          refine V_goto (tgt := 57) dX12_signHere_96 (by decide) ?_
          exact V_lv' (ih _ _ _ hF) (v_all_c rfl (v_all_c rfl (v_all_c rfl (v_all_c rfl v_all_n))))
set_option maxRecDepth 100000 in
set_option maxHeartbeats 4000000 in
theorem w_X12_signHere_L4 {l : Launch} {s0 : State} {D : va_G} {a0 : Array Value} {sh : List Sh} {f : Nat} {S : St} {t : Nat} (ht : isX12 sh t) {r : Int32} {d : Nat} (G : GC l s0 D a0) (hd : 2 ≤ d + 1) : ∀ (n : Nat) (l1 : Int32) (l2 : Int32), F_X12_signHere_L4 sh f S t n l1 l2 = some r → V l s0 D (d + 1) 0 0 mX12_signHere (fun v h => v = some (.int r) ∧ h = wd s0.heap.size sh S) v_noX 4 [(0, .ref (s0.heap.size + t)), (1, .int l1), (2, .int l2)] [] (wd s0.heap.size sh S) := by
  intro n
  induction n with
  | zero => intro l1 l2 hF; cases hF
  | succ n ih =>
    intro l1 l2 hF
    unfold F_X12_signHere_L4 at hF
    refine V_iload_n dX12_signHere_4 rfl ?_
    refine V_aload_n dX12_signHere_5 rfl ?_
    refine X_gI G dX12_signHere_6 fX12_331 ht.1 rfl ?_
    refine V_icmp_ge (tgt := 105) dX12_signHere_9 (by decide) (fun c => ?_) (fun c => ?_)
    · replace hF := (if_pos c).symm.trans hF
      refine V_iload_n dX12_signHere_105 rfl ?_
      cases hF
      exact V_ireturn dX12_signHere_106 rfl rfl ⟨rfl, rfl⟩
    · replace hF := (if_neg c).symm.trans hF
      refine V_aload_n dX12_signHere_12 rfl ?_
      refine V_iload_n dX12_signHere_13 rfl ?_
      obtain ⟨y1, hc, hF⟩ := bd hF
      refine V_callV G dX12_signHere_14 kX12_448 (wd_at ht.1) ⟨by decide, rfl⟩ (s_X12_isHalf ht G hc (by omega)) rfl (Nat.le_of_ble_eq_true rfl) (fun _ _ _ q => q.elim) ?_
      rintro _ _ ⟨rfl, rfl⟩
      refine V_if_eq (tgt := 99) dX12_signHere_17 (by decide) (fun c => ?_) (fun c => ?_)
      · replace hF := (if_pos c).symm.trans hF
        obtain ⟨x2, qx2, hF⟩ := bnd_g hF
        refine B_iinc (v := 1) qx2 dX12_signHere_99 rfl (by decide) (by decide) ?_
        refine V_goto (tgt := 4) dX12_signHere_102 (by decide) ?_
        exact V_lv' (ih _ _ hF) (v_all_c rfl (v_all_c rfl (v_all_c rfl v_all_n)))
      · replace hF := (if_neg c).symm.trans hF
        refine V_aload_n dX12_signHere_20 rfl ?_
        refine X_gC G dX12_signHere_21 fX12_63 ht.1 rfl ?_
        refine V_iload_n dX12_signHere_24 rfl ?_
        obtain ⟨hz, hF⟩ := gv_out hF
        refine X_iald dX12_signHere_25 ht.2.2.2.2.2.2.2.2.2.2.2.1 hz ?_
        refine V_iload_n dX12_signHere_26 rfl ?_
        refine V_icmp_ge (tgt := 33) dX12_signHere_27 (by decide) (fun c => ?_) (fun c => ?_)
        · replace hF := (if_pos c).symm.trans hF
          refine V_aload_n dX12_signHere_33 rfl ?_
          obtain ⟨b3, hrb3, hF⟩ := bd hF
          obtain ⟨hb3, hF⟩ := gv_in hF
          replace hb3 := ckX9_ok hb3
          refine X_gR G dX12_signHere_34 fX12_312 ht.1 rfl hrb3 ?_
          refine X_gC G dX12_signHere_37 fX12_260 hb3.1 rfl ?_
          refine V_aload_n dX12_signHere_40 rfl ?_
          refine X_gC G dX12_signHere_41 fX12_57 ht.1 rfl ?_
          refine V_iload_n dX12_signHere_44 rfl ?_
          obtain ⟨hz, hF⟩ := gv_out hF
          refine X_iald dX12_signHere_45 ht.2.2.2.2.2.2.2.2.2.1 hz ?_
          obtain ⟨hz, hF⟩ := gv_out hF
          refine X_zald dX12_signHere_46 hb3.2.2.2.2.2.2.2.2.2.2 hz ?_
          refine V_if_eq (tgt := 53) dX12_signHere_47 (by decide) (fun c => ?_) (fun c => ?_)
          · replace hF := (if_pos c).symm.trans hF
            refine V_iload_n dX12_signHere_53 rfl ?_
            refine V_iconst (v := 1) dX12_signHere_54 (by decide) ?_
            refine V_iadd dX12_signHere_55 ?_
            obtain ⟨x4, qx4, hF⟩ := bnd_g hF
            refine B_istore_n qx4 dX12_signHere_56 (by decide) ?_
            exact V_lv' (w_X12_signHere_L57 ht G hd ih f _ _ _ hF) (v_all_c rfl (v_all_c rfl (v_all_c rfl (v_all_c rfl v_all_n))))
          · replace hF := (if_neg c).symm.trans hF
            refine V_iload_n dX12_signHere_50 rfl ?_
            refine V_ineg dX12_signHere_51 ?_
            obtain ⟨x5, qx5, hF⟩ := bnd_g hF
            refine B_istore_n qx5 dX12_signHere_52 (by decide) ?_
            refine V_iload_n dX12_signHere_53 rfl ?_
            refine V_iconst (v := 1) dX12_signHere_54 (by decide) ?_
            refine V_iadd dX12_signHere_55 ?_
            obtain ⟨x6, qx6, hF⟩ := bnd_g hF
            refine B_istore_n qx6 dX12_signHere_56 (by decide) ?_
            exact V_lv' (w_X12_signHere_L57 ht G hd ih f _ _ _ hF) (v_all_c rfl (v_all_c rfl (v_all_c rfl (v_all_c rfl v_all_n))))
        · replace hF := (if_neg c).symm.trans hF
          refine V_goto (tgt := 99) dX12_signHere_30 (by decide) ?_
          obtain ⟨x7, qx7, hF⟩ := bnd_g hF
          refine B_iinc (v := 1) qx7 dX12_signHere_99 rfl (by decide) (by decide) ?_
          refine V_goto (tgt := 4) dX12_signHere_102 (by decide) ?_
          exact V_lv' (ih _ _ hF) (v_all_c rfl (v_all_c rfl (v_all_c rfl v_all_n)))
set_option maxRecDepth 100000 in
set_option maxHeartbeats 4000000 in
theorem s_X12_signHere {l : Launch} {s0 : State} {D : va_G} {a0 : Array Value} {sh : List Sh} {f : Nat} {S : St} {t : Nat} (ht : isX12 sh t) {r : Int32} (G : GC l s0 D a0) (hF : F_X12_signHere sh f S t = some r) {d : Nat} (hd : 2 ≤ d) : Sp l s0 D d 0 0 mX12_signHere (fun v h => v = some (.int r) ∧ h = wd s0.heap.size sh S) v_noX [.ref (s0.heap.size + t)] (wd s0.heap.size sh S) := by
  obtain ⟨d, rfl⟩ : ∃ e, d = e + 1 := ⟨d - 1, by omega⟩
  refine Sp.of (by decide +kernel) rfl (Nat.le_of_ble_eq_true rfl) ?_
  unfold F_X12_signHere at hF
  refine V_iconst (v := 1) dX12_signHere_0 (by decide) ?_
  refine V_istore_n dX12_signHere_1 (by decide) ?_
  refine V_iconst (v := 0) dX12_signHere_2 (by decide) ?_
  refine V_istore_n dX12_signHere_3 (by decide) ?_
  exact V_lv' (w_X12_signHere_L4 ht G hd f _ _ hF) (v_all_c rfl (v_all_c rfl (v_all_c rfl v_all_n)))
set_option maxRecDepth 100000 in
set_option maxHeartbeats 4000000 in
theorem w_X12_common_L4 {l : Launch} {s0 : State} {D : va_G} {a0 : Array Value} {sh : List Sh} {f : Nat} {S : St} {p0 : Int32} {p1 : Int32} {r : Int32} {d : Nat} (G : GC l s0 D a0) (hd : 1 ≤ d + 1) : ∀ (n : Nat) (l2 : Int32) (l3 : Int32), F_X12_common_L4 sh f S p0 p1 n l2 l3 = some r → V l s0 D (d + 1) 0 0 mX12_common (fun v h => v = some (.int r) ∧ h = wd s0.heap.size sh S) v_noX 4 [(2, .int l2), (3, .int l3)] [] (wd s0.heap.size sh S) := by
  intro n
  induction n with
  | zero => intro l2 l3 hF; cases hF
  | succ n ih =>
    intro l2 l3 hF
    unfold F_X12_common_L4 at hF
    refine V_iload_n dX12_common_4 rfl ?_
    refine V_if_le (tgt := 21) dX12_common_5 (by decide) (fun c => ?_) (fun c => ?_)
    · replace hF := (if_pos c).symm.trans hF
      refine V_iload_n dX12_common_21 rfl ?_
      cases hF
      exact V_ireturn dX12_common_22 rfl rfl ⟨rfl, rfl⟩
    · replace hF := (if_neg c).symm.trans hF
      refine V_iload_n dX12_common_8 rfl ?_
      refine V_iload_n dX12_common_9 rfl ?_
      obtain ⟨hz, hF⟩ := gv_out hF
      refine V_irem dX12_common_10 hz ?_
      obtain ⟨x1, qx1, hF⟩ := bnd_g hF
      refine B_istore qx1 dX12_common_11 (by decide) ?_
      refine V_iload_n dX12_common_13 rfl ?_
      refine V_istore_n dX12_common_14 (by decide) ?_
      refine V_iload dX12_common_15 rfl ?_
      refine V_istore_n dX12_common_17 (by decide) ?_
      refine V_goto (tgt := 4) dX12_common_18 (by decide) ?_
      exact V_lv' (ih _ _ hF) (v_all_c rfl (v_all_c rfl v_all_n))
set_option maxRecDepth 100000 in
set_option maxHeartbeats 4000000 in
theorem s_X12_common {l : Launch} {s0 : State} {D : va_G} {a0 : Array Value} {sh : List Sh} {f : Nat} {S : St} {p0 : Int32} {p1 : Int32} {r : Int32} (G : GC l s0 D a0) (hF : F_X12_common sh f S p0 p1 = some r) {d : Nat} (hd : 1 ≤ d) : Sp l s0 D d 0 0 mX12_common (fun v h => v = some (.int r) ∧ h = wd s0.heap.size sh S) v_noX [.int p0, .int p1] (wd s0.heap.size sh S) := by
  obtain ⟨d, rfl⟩ : ∃ e, d = e + 1 := ⟨d - 1, by omega⟩
  refine Sp.of (by decide +kernel) rfl (Nat.le_of_ble_eq_true rfl) ?_
  unfold F_X12_common at hF
  refine V_iload_n dX12_common_0 rfl ?_
  refine V_istore_n dX12_common_1 (by decide) ?_
  refine V_iload_n dX12_common_2 rfl ?_
  refine V_istore_n dX12_common_3 (by decide) ?_
  exact V_lv' (w_X12_common_L4  G hd f _ _ hF) (v_all_c rfl (v_all_c rfl v_all_n))
set_option maxRecDepth 100000 in
set_option maxHeartbeats 4000000 in
theorem s_X12_drawing {l : Launch} {s0 : State} {D : va_G} {a0 : Array Value} {sh : List Sh} {f : Nat} {S : St} {t : Nat} {p1 : Int32} {p2 : Int32} (ht : isX12 sh t) {r : Int32 × St} (G : GC l s0 D a0) (hF : F_X12_drawing sh f S t p1 p2 = some r) {d : Nat} (hd : 5 ≤ d) : Sp l s0 D d 0 0 mX12_drawing (fun v h => v = some (.int r.1) ∧ h = wd s0.heap.size sh r.2) v_noX [.ref (s0.heap.size + t), .int p1, .int p2] (wd s0.heap.size sh S) := by
  obtain ⟨d, rfl⟩ : ∃ e, d = e + 1 := ⟨d - 1, by omega⟩
  refine Sp.of (by decide +kernel) rfl (Nat.le_of_ble_eq_true rfl) ?_
  unfold F_X12_drawing at hF
  refine V_aload_n dX12_drawing_0 rfl ?_
  refine V_iconst (v := 0) dX12_drawing_1 (by decide) ?_
  refine X_pI G dX12_drawing_2 gX12_147 ht.1 rfl rfl rfl ?_
  obtain ⟨S1, qS1, hF⟩ := bnd_g hF
  refine V_eqS qS1 ?_
  refine V_aload_n dX12_drawing_5 rfl ?_
  refine V_iload_n dX12_drawing_6 rfl ?_
  obtain ⟨y2, hc, hF⟩ := bd hF
  refine V_callV G dX12_drawing_7 kX12_451 (wd_at ht.1) ⟨by decide, rfl⟩ (s_X12_isDrawing ht G hc (by omega)) rfl (Nat.le_of_ble_eq_true rfl) (fun _ _ _ q => q.elim) ?_
  rintro _ _ ⟨rfl, rfl⟩
  refine V_if_ne (tgt := 17) dX12_drawing_10 (by decide) (fun c => ?_) (fun c => ?_)
  · replace hF := (if_neg c).symm.trans hF
    refine V_aload_n dX12_drawing_17 rfl ?_
    refine V_aload_n dX12_drawing_18 rfl ?_
    refine X_gC G dX12_drawing_19 fX12_47 ht.1 rfl ?_
    refine X_gI G dX12_drawing_22 fX12_339 ht.2.2.2.2.2.2.1.1 rfl ?_
    refine X_pI G dX12_drawing_25 gX12_439 ht.1 rfl rfl rfl ?_
    obtain ⟨S3, qS3, hF⟩ := bnd_g hF
    refine V_eqS qS3 ?_
    refine V_aload_n dX12_drawing_28 rfl ?_
    refine V_aload_n dX12_drawing_29 rfl ?_
    refine X_gC G dX12_drawing_30 fX12_47 ht.1 rfl ?_
    refine V_iload_n dX12_drawing_33 rfl ?_
    obtain ⟨y4, hc, hF⟩ := bd hF
    refine V_callV G dX12_drawing_34 kX12_454 (wd_at ht.1) ⟨by decide, rfl⟩ (s_X12_shows ht ht.2.2.2.2.2.2.1 G hc (by omega)) rfl (Nat.le_of_ble_eq_true rfl) (fun _ _ _ q => q.elim) ?_
    rintro _ _ ⟨rfl, rfl⟩
    refine V_aload_n dX12_drawing_37 rfl ?_
    refine X_gC G dX12_drawing_38 fX12_47 ht.1 rfl ?_
    refine X_gC G dX12_drawing_41 fX12_416 ht.2.2.2.2.2.2.1.1 rfl ?_
    refine V_iload_n dX12_drawing_44 rfl ?_
    obtain ⟨hz, hF⟩ := gv_out hF
    refine X_iald dX12_drawing_45 ht.2.2.2.2.2.2.1.2.2.2.2.1 hz ?_
    refine V_aload_n dX12_drawing_46 rfl ?_
    refine X_gC G dX12_drawing_47 fX12_47 ht.1 rfl ?_
    refine X_gC G dX12_drawing_50 fX12_413 ht.2.2.2.2.2.2.1.1 rfl ?_
    refine V_iload_n dX12_drawing_53 rfl ?_
    obtain ⟨hz, hF⟩ := gv_out hF
    refine X_iald dX12_drawing_54 ht.2.2.2.2.2.2.1.2.2.2.2.2.1 hz ?_
    obtain ⟨y5, hc, hF⟩ := bd hF
    refine V_callS dX12_drawing_55 kX12_458 (s_X12_common G hc (by omega)) rfl (Nat.le_of_ble_eq_true rfl) (fun _ _ _ q => q.elim) ?_
    rintro _ _ ⟨rfl, rfl⟩
    refine V_istore_n dX12_drawing_58 (by decide) ?_
    refine V_iload_n dX12_drawing_59 rfl ?_
    by_cases c0 : p2 = (0 : Int32)
    · replace hF := (if_pos c0).symm.trans hF
      refine V_tableIn (off := 44) (tgt := 104) dX12_drawing_60 (by rw [c0]; decide) (by rw [c0]; decide) (by rw [c0]; decide) (by decide) ?_
      refine V_aload_n dX12_drawing_104 rfl ?_
      refine X_gC G dX12_drawing_105 fX12_47 ht.1 rfl ?_
      refine X_gC G dX12_drawing_108 fX12_416 ht.2.2.2.2.2.2.1.1 rfl ?_
      refine V_iload_n dX12_drawing_111 rfl ?_
      obtain ⟨hz, hF⟩ := gv_out hF
      refine X_iald dX12_drawing_112 ht.2.2.2.2.2.2.1.2.2.2.2.1 hz ?_
      refine V_iload_n dX12_drawing_113 rfl ?_
      obtain ⟨hz, hF⟩ := gv_out hF
      refine V_idiv dX12_drawing_114 hz ?_
      cases hF
      exact V_ireturn dX12_drawing_115 rfl rfl ⟨rfl, rfl⟩
    replace hF := (if_neg c0).symm.trans hF
    by_cases c1 : p2 = (1 : Int32)
    · replace hF := (if_pos c1).symm.trans hF
      refine V_tableIn (off := 56) (tgt := 116) dX12_drawing_60 (by rw [c1]; decide) (by rw [c1]; decide) (by rw [c1]; decide) (by decide) ?_
      refine V_aload_n dX12_drawing_116 rfl ?_
      refine X_gC G dX12_drawing_117 fX12_47 ht.1 rfl ?_
      refine X_gC G dX12_drawing_120 fX12_413 ht.2.2.2.2.2.2.1.1 rfl ?_
      refine V_iload_n dX12_drawing_123 rfl ?_
      obtain ⟨hz, hF⟩ := gv_out hF
      refine X_iald dX12_drawing_124 ht.2.2.2.2.2.2.1.2.2.2.2.2.1 hz ?_
      refine V_iload_n dX12_drawing_125 rfl ?_
      obtain ⟨hz, hF⟩ := gv_out hF
      refine V_idiv dX12_drawing_126 hz ?_
      cases hF
      exact V_ireturn dX12_drawing_127 rfl rfl ⟨rfl, rfl⟩
    replace hF := (if_neg c1).symm.trans hF
    by_cases c2 : p2 = (2 : Int32)
    · replace hF := (if_pos c2).symm.trans hF
      refine V_tableIn (off := 68) (tgt := 128) dX12_drawing_60 (by rw [c2]; decide) (by rw [c2]; decide) (by rw [c2]; decide) (by decide) ?_
      refine V_aload_n dX12_drawing_128 rfl ?_
      obtain ⟨y6, hc, hF⟩ := bd hF
      refine V_callV G dX12_drawing_129 kX12_461 (wd_at ht.1) ⟨by decide, rfl⟩ (s_X12_signHere ht G hc (by omega)) rfl (Nat.le_of_ble_eq_true rfl) (fun _ _ _ q => q.elim) ?_
      rintro _ _ ⟨rfl, rfl⟩
      cases hF
      exact V_ireturn dX12_drawing_132 rfl rfl ⟨rfl, rfl⟩
    replace hF := (if_neg c2).symm.trans hF
    by_cases c3 : p2 = (3 : Int32)
    · replace hF := (if_pos c3).symm.trans hF
      refine V_tableIn (off := 73) (tgt := 133) dX12_drawing_60 (by rw [c3]; decide) (by rw [c3]; decide) (by rw [c3]; decide) (by decide) ?_
      refine V_aload_n dX12_drawing_133 rfl ?_
      obtain ⟨y7, hc, hF⟩ := bd hF
      refine V_callV G dX12_drawing_134 kX12_464 (wd_at ht.1) ⟨by decide, rfl⟩ (s_X12_inners ht G hc (by omega)) rfl (Nat.le_of_ble_eq_true rfl) (fun _ _ _ q => q.elim) ?_
      rintro _ _ ⟨rfl, rfl⟩
      refine V_aload_n dX12_drawing_137 rfl ?_
      refine X_gC G dX12_drawing_138 fX12_47 ht.1 rfl ?_
      refine X_gI G dX12_drawing_141 fX12_339 ht.2.2.2.2.2.2.1.1 rfl ?_
      refine V_isub dX12_drawing_144 ?_
      refine V_iconst (v := 1) dX12_drawing_145 (by decide) ?_
      refine V_iadd dX12_drawing_146 ?_
      cases hF
      exact V_ireturn dX12_drawing_147 rfl rfl ⟨rfl, rfl⟩
    replace hF := (if_neg c3).symm.trans hF
    by_cases c4 : p2 = (4 : Int32)
    · replace hF := (if_pos c4).symm.trans hF
      refine V_tableIn (off := 88) (tgt := 148) dX12_drawing_60 (by rw [c4]; decide) (by rw [c4]; decide) (by rw [c4]; decide) (by decide) ?_
      refine V_aload_n dX12_drawing_148 rfl ?_
      obtain ⟨y8, hc, hF⟩ := bd hF
      refine V_callV G dX12_drawing_149 kX12_467 (wd_at ht.1) ⟨by decide, rfl⟩ (s_X12_cuts ht G hc (by omega)) rfl (Nat.le_of_ble_eq_true rfl) (fun _ _ _ q => q.elim) ?_
      rintro _ _ ⟨rfl, rfl⟩
      cases hF
      exact V_ireturn dX12_drawing_152 rfl rfl ⟨rfl, rfl⟩
    replace hF := (if_neg c4).symm.trans hF
    by_cases c5 : p2 = (5 : Int32)
    · replace hF := (if_pos c5).symm.trans hF
      refine V_tableIn (off := 93) (tgt := 153) dX12_drawing_60 (by rw [c5]; decide) (by rw [c5]; decide) (by rw [c5]; decide) (by decide) ?_
      refine V_aload_n dX12_drawing_153 rfl ?_
      refine X_gC G dX12_drawing_154 fX12_47 ht.1 rfl ?_
      refine X_gC G dX12_drawing_157 fX12_416 ht.2.2.2.2.2.2.1.1 rfl ?_
      refine V_iload_n dX12_drawing_160 rfl ?_
      obtain ⟨hz, hF⟩ := gv_out hF
      refine X_iald dX12_drawing_161 ht.2.2.2.2.2.2.1.2.2.2.2.1 hz ?_
      cases hF
      exact V_ireturn dX12_drawing_162 rfl rfl ⟨rfl, rfl⟩
    replace hF := (if_neg c5).symm.trans hF
    by_cases c6 : p2 = (6 : Int32)
    · replace hF := (if_pos c6).symm.trans hF
      refine V_tableIn (off := 103) (tgt := 163) dX12_drawing_60 (by rw [c6]; decide) (by rw [c6]; decide) (by rw [c6]; decide) (by decide) ?_
      refine V_aload_n dX12_drawing_163 rfl ?_
      obtain ⟨y9, hc, hF⟩ := bd hF
      refine V_callV G dX12_drawing_164 kX12_464 (wd_at ht.1) ⟨by decide, rfl⟩ (s_X12_inners ht G hc (by omega)) rfl (Nat.le_of_ble_eq_true rfl) (fun _ _ _ q => q.elim) ?_
      rintro _ _ ⟨rfl, rfl⟩
      cases hF
      exact V_ireturn dX12_drawing_167 rfl rfl ⟨rfl, rfl⟩
    replace hF := (if_neg c6).symm.trans hF
    refine V_tableOut (tgt := 168) dX12_drawing_60 (by have e0 := ts_ne c0 (n := 0) (by decide); have e1 := ts_ne c1 (n := 1) (by decide); have e2 := ts_ne c2 (n := 2) (by decide); have e3 := ts_ne c3 (n := 3) (by decide); have e4 := ts_ne c4 (n := 4) (by decide); have e5 := ts_ne c5 (n := 5) (by decide); have e6 := ts_ne c6 (n := 6) (by decide); omega) (by decide) ?_
    refine V_ldcw dX12_drawing_168 qX12_330 ?_
    cases hF
    exact V_ireturn dX12_drawing_171 rfl rfl ⟨rfl, rfl⟩
  · replace hF := (if_pos c).symm.trans hF
    refine V_ldcw dX12_drawing_13 qX12_330 ?_
    cases hF
    exact V_ireturn dX12_drawing_16 rfl rfl ⟨rfl, rfl⟩

