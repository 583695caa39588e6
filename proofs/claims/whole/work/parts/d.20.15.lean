set_option maxRecDepth 100000 in
set_option maxHeartbeats 4000000 in
theorem w_X7_addTerm_L31 {l : Launch} {s0 : State} {D : va_G} {a0 : Array Value} {sh : List Sh} {f : Nat} {t : Nat} {p1 : Int64} (ht : isX7 sh t) {r : St} {d : Nat} (G : GC l s0 D a0) (hd : 2 ≤ d + 1) {k2 : St → Int32 → Option (St)} (hk2 : ∀ (S : St) (l3 : Int32), k2 S l3 = some r → V l s0 D (d + 1) 0 0 mX7_addTerm (fun v h => v = none ∧ h = wd s0.heap.size sh r) v_noX 2 [(0, .ref (s0.heap.size + t)), (1, .long p1), (3, .int l3)] [] (wd s0.heap.size sh S)) : ∀ (S : St) (l3 : Int32) (l4 : Int64), F_X7_addTerm_L31 sh f t p1 k2 S l3 l4 = some r → V l s0 D (d + 1) 0 0 mX7_addTerm (fun v h => v = none ∧ h = wd s0.heap.size sh r) v_noX 31 [(0, .ref (s0.heap.size + t)), (1, .long p1), (3, .int l3), (4, .long l4)] [] (wd s0.heap.size sh S) := by
  intro S l3 l4 hF
  unfold F_X7_addTerm_L31 at hF
  refine V_lload_n dX7_addTerm_31 rfl ?_
  refine V_lload dX7_addTerm_32 rfl ?_
  obtain ⟨y1, hc, hF⟩ := bd hF
  refine V_callS dX7_addTerm_34 kX7_81 (s_J9_floorMod_f86c9 G hc (by omega)) rfl (Nat.le_of_ble_eq_true rfl) (fun _ _ _ q => q.elim) ?_
  rintro _ _ ⟨rfl, rfl⟩
  refine V_aload_n dX7_addTerm_37 rfl ?_
  refine X_gC G dX7_addTerm_38 fX7_15 ht.1 rfl ?_
  refine V_iload_n dX7_addTerm_41 rfl ?_
  obtain ⟨hz, hF⟩ := gv_out hF
  refine X_lald dX7_addTerm_42 ht.2.2 hz ?_
  refine V_lload dX7_addTerm_43 rfl ?_
  obtain ⟨y2, hc, hF⟩ := bd hF
  refine V_callS dX7_addTerm_45 kX7_96 (s_X7_inverse G hc (by omega)) rfl (Nat.le_of_ble_eq_true rfl) (fun _ _ _ q => q.elim) ?_
  rintro _ _ ⟨rfl, rfl⟩
  refine V_lmul dX7_addTerm_48 ?_
  refine V_lload dX7_addTerm_49 rfl ?_
  obtain ⟨hz, hF⟩ := gv_out hF
  refine V_lrem dX7_addTerm_51 hz ?_
  obtain ⟨x3, qx3, hF⟩ := bnd_g hF
  refine B_lstore qx3 dX7_addTerm_52 (by decide) ?_
  refine V_aload_n dX7_addTerm_54 rfl ?_
  refine X_gC G dX7_addTerm_55 fX7_11 ht.1 rfl ?_
  refine V_iload_n dX7_addTerm_58 rfl ?_
  refine V_aload_n dX7_addTerm_59 rfl ?_
  refine X_gC G dX7_addTerm_60 fX7_11 ht.1 rfl ?_
  refine V_iload_n dX7_addTerm_63 rfl ?_
  obtain ⟨hz, hF⟩ := gv_out hF
  refine X_lald dX7_addTerm_64 ht.2.1 hz ?_
  refine V_lload dX7_addTerm_65 rfl ?_
  refine V_ladd dX7_addTerm_67 ?_
  refine V_lload dX7_addTerm_68 rfl ?_
  obtain ⟨hz, hF⟩ := gv_out hF
  refine V_lrem dX7_addTerm_70 hz ?_
  obtain ⟨hz, hF⟩ := gv_out hF
  refine X_last dX7_addTerm_71 ht.2.1 hz ?_
  obtain ⟨S4, qS4, hF⟩ := bnd_g hF
  refine V_eqS qS4 ?_
  obtain ⟨x5, qx5, hF⟩ := bnd_g hF
  refine B_iinc (v := 1) qx5 dX7_addTerm_72 rfl (by decide) (by decide) ?_
  refine V_goto (tgt := 2) dX7_addTerm_75 (by decide) ?_
  exact V_lv' (hk2 _ _ hF) (v_all_c rfl (v_all_c rfl (v_all_c rfl v_all_n)))
set_option maxRecDepth 100000 in
set_option maxHeartbeats 4000000 in
theorem w_X7_addTerm_L2 {l : Launch} {s0 : State} {D : va_G} {a0 : Array Value} {sh : List Sh} {f : Nat} {t : Nat} {p1 : Int64} (ht : isX7 sh t) {r : St} {d : Nat} (G : GC l s0 D a0) (hd : 2 ≤ d + 1) : ∀ (n : Nat) (S : St) (l3 : Int32), F_X7_addTerm_L2 sh f t p1 n S l3 = some r → V l s0 D (d + 1) 0 0 mX7_addTerm (fun v h => v = none ∧ h = wd s0.heap.size sh r) v_noX 2 [(0, .ref (s0.heap.size + t)), (1, .long p1), (3, .int l3)] [] (wd s0.heap.size sh S) := by
  intro n
  induction n with
  | zero => intro S l3 hF; cases hF
  | succ n ih =>
    intro S l3 hF
    unfold F_X7_addTerm_L2 at hF
    refine V_iload_n dX7_addTerm_2 rfl ?_
    refine V_iconst (v := 4) dX7_addTerm_3 (by decide) ?_
    refine V_icmp_ge (tgt := 78) dX7_addTerm_4 (by decide) (fun c => ?_) (fun c => ?_)
    · replace hF := (if_pos c).symm.trans hF
      cases hF
      exact V_return dX7_addTerm_78 rfl ⟨rfl, rfl⟩
    · replace hF := (if_neg c).symm.trans hF
      refine V_gtab G dX7_addTerm_7 (v_tb2) zX7_78 (fun a1 ha1 => ?_)
      refine V_iload_n dX7_addTerm_10 rfl ?_
      obtain ⟨hz, hF⟩ := gv_out hF
      refine V_tald (f := v_tf v_T2) dX7_addTerm_11 ha1 hz ?_
      refine V_i2l dX7_addTerm_12 ?_
      obtain ⟨x2, qx2, hF⟩ := bnd_g hF
      refine B_lstore qx2 dX7_addTerm_13 (by decide) ?_
      refine V_aload_n dX7_addTerm_15 rfl ?_
      refine X_gC G dX7_addTerm_16 fX7_15 ht.1 rfl ?_
      refine V_iload_n dX7_addTerm_19 rfl ?_
      obtain ⟨hz, hF⟩ := gv_out hF
      refine X_lald dX7_addTerm_20 ht.2.2 hz ?_
      refine V_lconst (v := 0) dX7_addTerm_21 (by decide) ?_
      refine V_lcmp dX7_addTerm_22 ?_
      refine V_if_ne (tgt := 31) dX7_addTerm_23 (by decide) (fun c => ?_) (fun c => ?_)
      · replace hF := (if_neg c).symm.trans hF
        exact V_lv' (w_X7_addTerm_L31 ht G hd ih _ _ _ hF) (v_all_c rfl (v_all_c rfl (v_all_c rfl (v_all_c rfl v_all_n))))
      · replace hF := (if_pos c).symm.trans hF
        refine V_aload_n dX7_addTerm_26 rfl ?_
        refine V_iconst (v := 1) dX7_addTerm_27 (by decide) ?_
        refine X_pI G dX7_addTerm_28 gX7_22 ht.1 rfl (by decide) (by decide) ?_
        obtain ⟨S3, qS3, hF⟩ := bnd_g hF
        refine V_eqS qS3 ?_
        exact V_lv' (w_X7_addTerm_L31 ht G hd ih _ _ _ hF) (v_all_c rfl (v_all_c rfl (v_all_c rfl (v_all_c rfl v_all_n))))
set_option maxRecDepth 100000 in
set_option maxHeartbeats 4000000 in
theorem s_X7_addTerm {l : Launch} {s0 : State} {D : va_G} {a0 : Array Value} {sh : List Sh} {f : Nat} {S : St} {t : Nat} {p1 : Int64} (ht : isX7 sh t) {r : St} (G : GC l s0 D a0) (hF : F_X7_addTerm sh f S t p1 = some r) {d : Nat} (hd : 2 ≤ d) : Sp l s0 D d 0 0 mX7_addTerm (fun v h => v = none ∧ h = wd s0.heap.size sh r) v_noX [.ref (s0.heap.size + t), .long p1] (wd s0.heap.size sh S) := by
  obtain ⟨d, rfl⟩ : ∃ e, d = e + 1 := ⟨d - 1, by omega⟩
  refine Sp.of (by decide +kernel) rfl (Nat.le_of_ble_eq_true rfl) ?_
  unfold F_X7_addTerm at hF
  refine V_iconst (v := 0) dX7_addTerm_0 (by decide) ?_
  refine V_istore_n dX7_addTerm_1 (by decide) ?_
  exact V_lv' (w_X7_addTerm_L2 ht G hd f _ _ hF) (v_all_c rfl (v_all_c rfl (v_all_c rfl v_all_n)))
set_option maxRecDepth 100000 in
set_option maxHeartbeats 4000000 in
theorem w_X7_addWorths_L53 {l : Launch} {s0 : State} {D : va_G} {a0 : Array Value} {sh : List Sh} {f : Nat} {t : Nat} {p1 : Nat} {p2 : Nat} {p3 : Nat} {p4 n4 : Nat} {p5 : Int32} {p6 : Int32} (ht : isX7 sh t) (hp1 : isX3 sh p1) (hp2 : isX0 sh p2) (hp3 : isX1 sh p3) (hp4 : sh[p4]? = some (.inl (.int, n4))) {r : St} {d : Nat} (G : GC l s0 D a0) (hd : 3 ≤ d + 1) {k3 : St → Int32 → Option (St)} (hk3 : ∀ (S : St) (l7 : Int32), k3 S l7 = some r → V l s0 D (d + 1) 0 0 mX7_addWorths (fun v h => v = none ∧ h = wd s0.heap.size sh r) v_noX 3 [(0, .ref (s0.heap.size + t)), (1, .ref (s0.heap.size + p1)), (2, .ref (s0.heap.size + p2)), (3, .ref (s0.heap.size + p3)), (4, .ref (s0.heap.size + p4)), (5, .int p5), (6, .int p6), (7, .int l7)] [] (wd s0.heap.size sh S)) : ∀ (S : St) (l7 : Int32) (l8 : Int32), F_X7_addWorths_L53 sh f t p1 p2 p3 p4 n4 p5 p6 k3 S l7 l8 = some r → V l s0 D (d + 1) 0 0 mX7_addWorths (fun v h => v = none ∧ h = wd s0.heap.size sh r) v_noX 53 [(0, .ref (s0.heap.size + t)), (1, .ref (s0.heap.size + p1)), (2, .ref (s0.heap.size + p2)), (3, .ref (s0.heap.size + p3)), (4, .ref (s0.heap.size + p4)), (5, .int p5), (6, .int p6), (7, .int l7), (8, .int l8)] [] (wd s0.heap.size sh S) := by
  intro S l7 l8 hF
  unfold F_X7_addWorths_L53 at hF
  refine V_aload_n dX7_addWorths_53 rfl ?_
  refine V_aload_n dX7_addWorths_54 rfl ?_
  refine V_iload dX7_addWorths_55 rfl ?_
  refine V_aload_n dX7_addWorths_57 rfl ?_
  refine V_aload_n dX7_addWorths_58 rfl ?_
  refine V_iload dX7_addWorths_59 rfl ?_
  obtain ⟨y1, hc, hF⟩ := bd hF
  refine V_callV G dX7_addWorths_61 kX7_39 (wd_at ht.1) ⟨by decide, rfl⟩ (s_X7_divideByJoins ht hp1 hp2 hp3 G hc (by omega)) rfl (Nat.le_of_ble_eq_true rfl) (fun _ _ _ q => q.elim) ?_
  rintro _ _ ⟨rfl, rfl⟩
  refine V_aload_n dX7_addWorths_64 rfl ?_
  refine V_aload_n dX7_addWorths_65 rfl ?_
  refine X_gC G dX7_addWorths_66 fX7_43 hp1.1 rfl ?_
  refine V_iload dX7_addWorths_69 rfl ?_
  obtain ⟨hz, hF⟩ := gv_out hF
  refine X_iald dX7_addWorths_71 hp1.2.2.2.1 hz ?_
  refine V_i2l dX7_addWorths_72 ?_
  refine V_aload_n dX7_addWorths_73 rfl ?_
  refine V_iload dX7_addWorths_74 rfl ?_
  refine V_aload dX7_addWorths_76 rfl ?_
  obtain ⟨y2, hc, hF⟩ := bd hF
  refine V_callS dX7_addWorths_78 kX7_47 (s_X7_above hp1 hp4 G hc (by omega)) rfl (Nat.le_of_ble_eq_true rfl) (fun _ _ _ q => q.elim) ?_
  rintro _ _ ⟨rfl, rfl⟩
  refine V_lmul dX7_addWorths_81 ?_
  obtain ⟨y3, hc, hF⟩ := bd hF
  refine V_callV G dX7_addWorths_82 kX7_51 (wd_at ht.1) ⟨by decide, rfl⟩ (s_X7_addTerm ht G hc (by omega)) rfl (Nat.le_of_ble_eq_true rfl) (fun _ _ _ q => q.elim) ?_
  rintro _ _ ⟨rfl, rfl⟩
  obtain ⟨x4, qx4, hF⟩ := bnd_g hF
  refine B_iinc (v := 1) qx4 dX7_addWorths_85 rfl (by decide) (by decide) ?_
  refine V_goto (tgt := 3) dX7_addWorths_88 (by decide) ?_
  exact V_lv' (hk3 _ _ hF) (v_all_c rfl (v_all_c rfl (v_all_c rfl (v_all_c rfl (v_all_c rfl (v_all_c rfl (v_all_c rfl (v_all_c rfl v_all_n))))))))
set_option maxRecDepth 100000 in
set_option maxHeartbeats 4000000 in
theorem w_X7_addWorths_L31 {l : Launch} {s0 : State} {D : va_G} {a0 : Array Value} {sh : List Sh} {f : Nat} {t : Nat} {p1 : Nat} {p2 : Nat} {p3 : Nat} {p4 n4 : Nat} {p5 : Int32} {p6 : Int32} (ht : isX7 sh t) (hp1 : isX3 sh p1) (hp2 : isX0 sh p2) (hp3 : isX1 sh p3) (hp4 : sh[p4]? = some (.inl (.int, n4))) {r : St} {d : Nat} (G : GC l s0 D a0) (hd : 3 ≤ d + 1) {k3 : St → Int32 → Option (St)} (hk3 : ∀ (S : St) (l7 : Int32), k3 S l7 = some r → V l s0 D (d + 1) 0 0 mX7_addWorths (fun v h => v = none ∧ h = wd s0.heap.size sh r) v_noX 3 [(0, .ref (s0.heap.size + t)), (1, .ref (s0.heap.size + p1)), (2, .ref (s0.heap.size + p2)), (3, .ref (s0.heap.size + p3)), (4, .ref (s0.heap.size + p4)), (5, .int p5), (6, .int p6), (7, .int l7)] [] (wd s0.heap.size sh S)) : ∀ (S : St) (l7 : Int32) (v0 : Int32), F_X7_addWorths_L31 sh f t p1 p2 p3 p4 n4 p5 p6 k3 S l7 v0 = some r → V l s0 D (d + 1) 0 0 mX7_addWorths (fun v h => v = none ∧ h = wd s0.heap.size sh r) v_noX 31 [(0, .ref (s0.heap.size + t)), (1, .ref (s0.heap.size + p1)), (2, .ref (s0.heap.size + p2)), (3, .ref (s0.heap.size + p3)), (4, .ref (s0.heap.size + p4)), (5, .int p5), (6, .int p6), (7, .int l7)] [.int v0] (wd s0.heap.size sh S) := by
  intro S l7 v0 hF
  unfold F_X7_addWorths_L31 at hF
  refine V_istore dX7_addWorths_31 (by decide) ?_
  refine V_aload_n dX7_addWorths_33 rfl ?_
  refine V_iload dX7_addWorths_34 rfl ?_
  obtain ⟨y1, hc, hF⟩ := bd hF
  refine V_callV G dX7_addWorths_36 kX7_35 (wd_at hp1.1) ⟨by decide, rfl⟩ (s_X3_loops hp1 G hc (by omega)) rfl (Nat.le_of_ble_eq_true rfl) (fun _ _ _ q => q.elim) ?_
  rintro _ _ ⟨rfl, rfl⟩
  refine V_if_ne (tgt := 85) dX7_addWorths_39 (by decide) (fun c => ?_) (fun c => ?_)
  · replace hF := (if_neg c).symm.trans hF
    obtain ⟨x2, qx2, hF⟩ := bnd_g hF
    refine B_iinc (v := 1) qx2 dX7_addWorths_85 rfl (by decide) (by decide) ?_
    refine V_goto (tgt := 3) dX7_addWorths_88 (by decide) ?_
    exact V_lv' (hk3 _ _ hF) (v_all_c rfl (v_all_c rfl (v_all_c rfl (v_all_c rfl (v_all_c rfl (v_all_c rfl (v_all_c rfl (v_all_c rfl v_all_n))))))))
  · replace hF := (if_pos c).symm.trans hF
    refine V_iload dX7_addWorths_42 rfl ?_
    refine V_if_eq (tgt := 53) dX7_addWorths_44 (by decide) (fun c => ?_) (fun c => ?_)
    · replace hF := (if_pos c).symm.trans hF
      exact V_lv' (w_X7_addWorths_L53 ht hp1 hp2 hp3 hp4 G hd hk3 _ _ _ hF) (v_all_c rfl (v_all_c rfl (v_all_c rfl (v_all_c rfl (v_all_c rfl (v_all_c rfl (v_all_c rfl (v_all_c rfl (v_all_c rfl v_all_n)))))))))
    · replace hF := (if_neg c).symm.trans hF
      refine V_iload dX7_addWorths_47 rfl ?_
      refine V_iconst (v := -1) dX7_addWorths_49 (by decide) ?_
      refine V_icmp_eq (tgt := 85) dX7_addWorths_50 (by decide) (fun c => ?_) (fun c => ?_)
      · replace hF := (if_pos c).symm.trans hF
        obtain ⟨x3, qx3, hF⟩ := bnd_g hF
        refine B_iinc (v := 1) qx3 dX7_addWorths_85 rfl (by decide) (by decide) ?_
        refine V_goto (tgt := 3) dX7_addWorths_88 (by decide) ?_
        exact V_lv' (hk3 _ _ hF) (v_all_c rfl (v_all_c rfl (v_all_c rfl (v_all_c rfl (v_all_c rfl (v_all_c rfl (v_all_c rfl (v_all_c rfl v_all_n))))))))
      · replace hF := (if_neg c).symm.trans hF
        exact V_lv' (w_X7_addWorths_L53 ht hp1 hp2 hp3 hp4 G hd hk3 _ _ _ hF) (v_all_c rfl (v_all_c rfl (v_all_c rfl (v_all_c rfl (v_all_c rfl (v_all_c rfl (v_all_c rfl (v_all_c rfl (v_all_c rfl v_all_n)))))))))
set_option maxRecDepth 100000 in
set_option maxHeartbeats 4000000 in
theorem w_X7_addWorths_L3 {l : Launch} {s0 : State} {D : va_G} {a0 : Array Value} {sh : List Sh} {f : Nat} {t : Nat} {p1 : Nat} {p2 : Nat} {p3 : Nat} {p4 n4 : Nat} {p5 : Int32} {p6 : Int32} (ht : isX7 sh t) (hp1 : isX3 sh p1) (hp2 : isX0 sh p2) (hp3 : isX1 sh p3) (hp4 : sh[p4]? = some (.inl (.int, n4))) {r : St} {d : Nat} (G : GC l s0 D a0) (hd : 3 ≤ d + 1) : ∀ (n : Nat) (S : St) (l7 : Int32), F_X7_addWorths_L3 sh f t p1 p2 p3 p4 n4 p5 p6 n S l7 = some r → V l s0 D (d + 1) 0 0 mX7_addWorths (fun v h => v = none ∧ h = wd s0.heap.size sh r) v_noX 3 [(0, .ref (s0.heap.size + t)), (1, .ref (s0.heap.size + p1)), (2, .ref (s0.heap.size + p2)), (3, .ref (s0.heap.size + p3)), (4, .ref (s0.heap.size + p4)), (5, .int p5), (6, .int p6), (7, .int l7)] [] (wd s0.heap.size sh S) := by
  intro n
  induction n with
  | zero => intro S l7 hF; cases hF
  | succ n ih =>
    intro S l7 hF
    unfold F_X7_addWorths_L3 at hF
    refine V_iload dX7_addWorths_3 rfl ?_
    refine V_aload_n dX7_addWorths_5 rfl ?_
    refine X_gI G dX7_addWorths_6 fX7_26 hp1.1 rfl ?_
    refine V_icmp_ge (tgt := 91) dX7_addWorths_9 (by decide) (fun c => ?_) (fun c => ?_)
    · replace hF := (if_pos c).symm.trans hF
      cases hF
      exact V_return dX7_addWorths_91 rfl ⟨rfl, rfl⟩
    · replace hF := (if_neg c).symm.trans hF
      refine V_iload dX7_addWorths_12 rfl ?_
      refine V_if_ne (tgt := 21) dX7_addWorths_14 (by decide) (fun c => ?_) (fun c => ?_)
      · replace hF := (if_neg c).symm.trans hF
        refine V_aload_n dX7_addWorths_21 rfl ?_
        refine V_iload dX7_addWorths_22 rfl ?_
        refine V_iload dX7_addWorths_24 rfl ?_
        refine V_iload dX7_addWorths_26 rfl ?_
        obtain ⟨y1, hc, hF⟩ := bd hF
        refine V_callS dX7_addWorths_28 kX7_31 (s_X7_findCut hp1 G hc (by omega)) rfl (Nat.le_of_ble_eq_true rfl) (fun _ _ _ q => q.elim) ?_
        rintro _ _ ⟨rfl, rfl⟩
        exact V_lv' (w_X7_addWorths_L31 ht hp1 hp2 hp3 hp4 G hd ih _ _ _ hF) (v_all_c rfl (v_all_c rfl (v_all_c rfl (v_all_c rfl (v_all_c rfl (v_all_c rfl (v_all_c rfl (v_all_c rfl v_all_n))))))))
      · replace hF := (if_pos c).symm.trans hF
        refine V_iconst (v := -1) dX7_addWorths_17 (by decide) ?_
        refine V_goto (tgt := 31) dX7_addWorths_18 (by decide) ?_
        exact V_lv' (w_X7_addWorths_L31 ht hp1 hp2 hp3 hp4 G hd ih _ _ _ hF) (v_all_c rfl (v_all_c rfl (v_all_c rfl (v_all_c rfl (v_all_c rfl (v_all_c rfl (v_all_c rfl (v_all_c rfl v_all_n))))))))
set_option maxRecDepth 100000 in
set_option maxHeartbeats 4000000 in
theorem s_X7_addWorths {l : Launch} {s0 : State} {D : va_G} {a0 : Array Value} {sh : List Sh} {f : Nat} {S : St} {t : Nat} {p1 : Nat} {p2 : Nat} {p3 : Nat} {p4 n4 : Nat} {p5 : Int32} {p6 : Int32} (ht : isX7 sh t) (hp1 : isX3 sh p1) (hp2 : isX0 sh p2) (hp3 : isX1 sh p3) (hp4 : sh[p4]? = some (.inl (.int, n4))) {r : St} (G : GC l s0 D a0) (hF : F_X7_addWorths sh f S t p1 p2 p3 p4 n4 p5 p6 = some r) {d : Nat} (hd : 3 ≤ d) : Sp l s0 D d 0 0 mX7_addWorths (fun v h => v = none ∧ h = wd s0.heap.size sh r) v_noX [.ref (s0.heap.size + t), .ref (s0.heap.size + p1), .ref (s0.heap.size + p2), .ref (s0.heap.size + p3), .ref (s0.heap.size + p4), .int p5, .int p6] (wd s0.heap.size sh S) := by
  obtain ⟨d, rfl⟩ : ∃ e, d = e + 1 := ⟨d - 1, by omega⟩
  refine Sp.of (by decide +kernel) rfl (Nat.le_of_ble_eq_true rfl) ?_
  unfold F_X7_addWorths at hF
  refine V_iconst (v := 0) dX7_addWorths_0 (by decide) ?_
  refine V_istore dX7_addWorths_1 (by decide) ?_
  exact V_lv' (w_X7_addWorths_L3 ht hp1 hp2 hp3 hp4 G hd f _ _ hF) (v_all_c rfl (v_all_c rfl (v_all_c rfl (v_all_c rfl (v_all_c rfl (v_all_c rfl (v_all_c rfl (v_all_c rfl v_all_n))))))))
set_option maxRecDepth 100000 in
set_option maxHeartbeats 4000000 in
theorem w_X7_addProduct_L63 {l : Launch} {s0 : State} {D : va_G} {a0 : Array Value} {sh : List Sh} {f : Nat} {t : Nat} {p1 : Nat} {p2 : Nat} (ht : isX7 sh t) (hp1 : isX7 sh p1) (hp2 : isX7 sh p2) {r : St} {d : Nat} (G : GC l s0 D a0) (hd : 1 ≤ d + 1) : ∀ (n : Nat) (S : St) (l3 : Int32), F_X7_addProduct_L63 sh f t p1 p2 n S l3 = some r → V l s0 D (d + 1) 0 0 mX7_addProduct (fun v h => v = none ∧ h = wd s0.heap.size sh r) v_noX 63 [(0, .ref (s0.heap.size + t)), (1, .ref (s0.heap.size + p1)), (2, .ref (s0.heap.size + p2)), (3, .int l3)] [] (wd s0.heap.size sh S) := by
  intro n
  induction n with
  | zero => intro S l3 hF; cases hF
  | succ n ih =>
    intro S l3 hF
    unfold F_X7_addProduct_L63 at hF
    refine V_iload_n dX7_addProduct_63 rfl ?_
    refine V_iconst (v := 4) dX7_addProduct_64 (by decide) ?_
    refine V_icmp_ge (tgt := 107) dX7_addProduct_65 (by decide) (fun c => ?_) (fun c => ?_)
    · replace hF := (if_pos c).symm.trans hF
      cases hF
      exact V_return dX7_addProduct_107 rfl ⟨rfl, rfl⟩
    · replace hF := (if_neg c).symm.trans hF
      refine V_aload_n dX7_addProduct_68 rfl ?_
      refine X_gC G dX7_addProduct_69 fX7_11 ht.1 rfl ?_
      refine V_iload_n dX7_addProduct_72 rfl ?_
      refine V_aload_n dX7_addProduct_73 rfl ?_
      refine X_gC G dX7_addProduct_74 fX7_11 ht.1 rfl ?_
      refine V_iload_n dX7_addProduct_77 rfl ?_
      obtain ⟨hz, hF⟩ := gv_out hF
      refine X_lald dX7_addProduct_78 ht.2.1 hz ?_
      refine V_aload_n dX7_addProduct_79 rfl ?_
      refine X_gC G dX7_addProduct_80 fX7_11 hp1.1 rfl ?_
      refine V_iload_n dX7_addProduct_83 rfl ?_
      obtain ⟨hz, hF⟩ := gv_out hF
      refine X_lald dX7_addProduct_84 hp1.2.1 hz ?_
      refine V_aload_n dX7_addProduct_85 rfl ?_
      refine X_gC G dX7_addProduct_86 fX7_11 hp2.1 rfl ?_
      refine V_iload_n dX7_addProduct_89 rfl ?_
      obtain ⟨hz, hF⟩ := gv_out hF
      refine X_lald dX7_addProduct_90 hp2.2.1 hz ?_
      refine V_lmul dX7_addProduct_91 ?_
      refine V_ladd dX7_addProduct_92 ?_
      refine V_gtab G dX7_addProduct_93 (v_tb2) zX7_78 (fun a1 ha1 => ?_)
      refine V_iload_n dX7_addProduct_96 rfl ?_
      obtain ⟨hz, hF⟩ := gv_out hF
      refine V_tald (f := v_tf v_T2) dX7_addProduct_97 ha1 hz ?_
      refine V_i2l dX7_addProduct_98 ?_
      obtain ⟨hz, hF⟩ := gv_out hF
      refine V_lrem dX7_addProduct_99 hz ?_
      obtain ⟨hz, hF⟩ := gv_out hF
      refine X_last dX7_addProduct_100 ht.2.1 hz ?_
      obtain ⟨S2, qS2, hF⟩ := bnd_g hF
      refine V_eqS qS2 ?_
      obtain ⟨x3, qx3, hF⟩ := bnd_g hF
      refine B_iinc (v := 1) qx3 dX7_addProduct_101 rfl (by decide) (by decide) ?_
      refine V_goto (tgt := 63) dX7_addProduct_104 (by decide) ?_
      exact V_lv' (ih _ _ hF) (v_all_c rfl (v_all_c rfl (v_all_c rfl (v_all_c rfl v_all_n))))
set_option maxRecDepth 100000 in
set_option maxHeartbeats 4000000 in
theorem w_X7_addProduct_L31 {l : Launch} {s0 : State} {D : va_G} {a0 : Array Value} {sh : List Sh} {f : Nat} {t : Nat} {p1 : Nat} {p2 : Nat} (ht : isX7 sh t) (hp1 : isX7 sh p1) (hp2 : isX7 sh p2) {r : St} {d : Nat} (G : GC l s0 D a0) (hd : 1 ≤ d + 1) : ∀ (S : St), F_X7_addProduct_L31 sh f t p1 p2 S = some r → V l s0 D (d + 1) 0 0 mX7_addProduct (fun v h => v = none ∧ h = wd s0.heap.size sh r) v_noX 31 [(0, .ref (s0.heap.size + t)), (1, .ref (s0.heap.size + p1)), (2, .ref (s0.heap.size + p2))] [] (wd s0.heap.size sh S) := by
  intro S hF
  unfold F_X7_addProduct_L31 at hF
  refine V_aload_n dX7_addProduct_31 rfl ?_
  refine V_aload_n dX7_addProduct_32 rfl ?_
  refine X_gI G dX7_addProduct_33 fX7_22 ht.1 rfl ?_
  refine V_if_ne (tgt := 53) dX7_addProduct_36 (by decide) (fun c => ?_) (fun c => ?_)
  · replace hF := (if_neg c).symm.trans hF
    refine V_iconst (v := 1) dX7_addProduct_53 (by decide) ?_
    refine V_goto (tgt := 58) dX7_addProduct_54 (by decide) ?_
    refine X_pI G dX7_addProduct_58 gX7_22 ht.1 rfl (by decide) (by decide) ?_
    obtain ⟨S1, qS1, hF⟩ := bnd_g hF
    refine V_eqS qS1 ?_
    refine V_iconst (v := 0) dX7_addProduct_61 (by decide) ?_
    refine V_istore_n dX7_addProduct_62 (by decide) ?_
    exact V_lv' (w_X7_addProduct_L63 ht hp1 hp2 G hd f _ _ hF) (v_all_c rfl (v_all_c rfl (v_all_c rfl (v_all_c rfl v_all_n))))
  · replace hF := (if_pos c).symm.trans hF
    refine V_aload_n dX7_addProduct_39 rfl ?_
    refine X_gI G dX7_addProduct_40 fX7_22 hp1.1 rfl ?_
    refine V_if_ne (tgt := 53) dX7_addProduct_43 (by decide) (fun c => ?_) (fun c => ?_)
    · replace hF := (if_neg c).symm.trans hF
      refine V_iconst (v := 1) dX7_addProduct_53 (by decide) ?_
      refine V_goto (tgt := 58) dX7_addProduct_54 (by decide) ?_
      refine X_pI G dX7_addProduct_58 gX7_22 ht.1 rfl (by decide) (by decide) ?_
      obtain ⟨S2, qS2, hF⟩ := bnd_g hF
      refine V_eqS qS2 ?_
      refine V_iconst (v := 0) dX7_addProduct_61 (by decide) ?_
      refine V_istore_n dX7_addProduct_62 (by decide) ?_
      exact V_lv' (w_X7_addProduct_L63 ht hp1 hp2 G hd f _ _ hF) (v_all_c rfl (v_all_c rfl (v_all_c rfl (v_all_c rfl v_all_n))))
    · replace hF := (if_pos c).symm.trans hF
      refine V_aload_n dX7_addProduct_46 rfl ?_
      refine X_gI G dX7_addProduct_47 fX7_22 hp2.1 rfl ?_
      refine V_if_eq (tgt := 57) dX7_addProduct_50 (by decide) (fun c => ?_) (fun c => ?_)
      · replace hF := (if_pos c).symm.trans hF
        refine V_iconst (v := 0) dX7_addProduct_57 (by decide) ?_
        refine X_pI G dX7_addProduct_58 gX7_22 ht.1 rfl (by decide) (by decide) ?_
        obtain ⟨S3, qS3, hF⟩ := bnd_g hF
        refine V_eqS qS3 ?_
        refine V_iconst (v := 0) dX7_addProduct_61 (by decide) ?_
        refine V_istore_n dX7_addProduct_62 (by decide) ?_
        exact V_lv' (w_X7_addProduct_L63 ht hp1 hp2 G hd f _ _ hF) (v_all_c rfl (v_all_c rfl (v_all_c rfl (v_all_c rfl v_all_n))))
      · replace hF := (if_neg c).symm.trans hF
        refine V_iconst (v := 1) dX7_addProduct_53 (by decide) ?_
        refine V_goto (tgt := 58) dX7_addProduct_54 (by decide) ?_
        refine X_pI G dX7_addProduct_58 gX7_22 ht.1 rfl (by decide) (by decide) ?_
        obtain ⟨S4, qS4, hF⟩ := bnd_g hF
        refine V_eqS qS4 ?_
        refine V_iconst (v := 0) dX7_addProduct_61 (by decide) ?_
        refine V_istore_n dX7_addProduct_62 (by decide) ?_
        exact V_lv' (w_X7_addProduct_L63 ht hp1 hp2 G hd f _ _ hF) (v_all_c rfl (v_all_c rfl (v_all_c rfl (v_all_c rfl v_all_n))))
set_option maxRecDepth 100000 in
set_option maxHeartbeats 4000000 in
theorem w_X7_addProduct_L28 {l : Launch} {s0 : State} {D : va_G} {a0 : Array Value} {sh : List Sh} {f : Nat} {t : Nat} {p1 : Nat} {p2 : Nat} (ht : isX7 sh t) (hp1 : isX7 sh p1) (hp2 : isX7 sh p2) {r : St} {d : Nat} (G : GC l s0 D a0) (hd : 1 ≤ d + 1) : ∀ (S : St) (v0 : Nat) (v1 : Int32),isX7 sh v0 → F_X7_addProduct_L28 sh f t p1 p2 S v0 v1 = some r → V l s0 D (d + 1) 0 0 mX7_addProduct (fun v h => v = none ∧ h = wd s0.heap.size sh r) v_noX 28 [(0, .ref (s0.heap.size + t)), (1, .ref (s0.heap.size + p1)), (2, .ref (s0.heap.size + p2))] [.int v1, .ref (s0.heap.size + v0)] (wd s0.heap.size sh S) := by
  intro S v0 v1 hv0 hF
  unfold F_X7_addProduct_L28 at hF
  refine X_pI G dX7_addProduct_28 gX7_18 hv0.1 rfl rfl rfl ?_
  obtain ⟨S1, qS1, hF⟩ := bnd_g hF
  refine V_eqS qS1 ?_
  exact V_lv' (w_X7_addProduct_L31 ht hp1 hp2 G hd _ hF) (v_all_c rfl (v_all_c rfl (v_all_c rfl v_all_n)))
set_option maxRecDepth 100000 in
set_option maxHeartbeats 4000000 in
theorem s_X7_addProduct {l : Launch} {s0 : State} {D : va_G} {a0 : Array Value} {sh : List Sh} {f : Nat} {S : St} {t : Nat} {p1 : Nat} {p2 : Nat} (ht : isX7 sh t) (hp1 : isX7 sh p1) (hp2 : isX7 sh p2) {r : St} (G : GC l s0 D a0) (hF : F_X7_addProduct sh f S t p1 p2 = some r) {d : Nat} (hd : 1 ≤ d) : Sp l s0 D d 0 0 mX7_addProduct (fun v h => v = none ∧ h = wd s0.heap.size sh r) v_noX [.ref (s0.heap.size + t), .ref (s0.heap.size + p1), .ref (s0.heap.size + p2)] (wd s0.heap.size sh S) := by
  obtain ⟨d, rfl⟩ : ∃ e, d = e + 1 := ⟨d - 1, by omega⟩
  refine Sp.of (by decide +kernel) rfl (Nat.le_of_ble_eq_true rfl) ?_
  unfold F_X7_addProduct at hF
  refine V_aload_n dX7_addProduct_0 rfl ?_
  refine X_gI G dX7_addProduct_1 fX7_18 ht.1 rfl ?_
  refine V_iconst (v := -1) dX7_addProduct_4 (by decide) ?_
  refine V_icmp_ne (tgt := 31) dX7_addProduct_5 (by decide) (fun c => ?_) (fun c => ?_)
  · replace hF := (if_neg c).symm.trans hF
    exact V_lv' (w_X7_addProduct_L31 ht hp1 hp2 G hd _ hF) (v_all_c rfl (v_all_c rfl (v_all_c rfl v_all_n)))
  · replace hF := (if_pos c).symm.trans hF
    refine V_aload_n dX7_addProduct_8 rfl ?_
    refine V_aload_n dX7_addProduct_9 rfl ?_
    refine X_gI G dX7_addProduct_10 fX7_18 hp1.1 rfl ?_
    refine V_iconst (v := -1) dX7_addProduct_13 (by decide) ?_
    refine V_icmp_eq (tgt := 24) dX7_addProduct_14 (by decide) (fun c => ?_) (fun c => ?_)
    · replace hF := (if_pos c).symm.trans hF
      refine V_aload_n dX7_addProduct_24 rfl ?_
      refine X_gI G dX7_addProduct_25 fX7_18 hp2.1 rfl ?_
      exact V_lv' (w_X7_addProduct_L28 ht hp1 hp2 G hd _ _ _ ht hF) (v_all_c rfl (v_all_c rfl (v_all_c rfl v_all_n)))
    · replace hF := (if_neg c).symm.trans hF
      refine V_aload_n dX7_addProduct_17 rfl ?_
      refine X_gI G dX7_addProduct_18 fX7_18 hp1.1 rfl ?_
      refine V_goto (tgt := 28) dX7_addProduct_21 (by decide) ?_
      exact V_lv' (w_X7_addProduct_L28 ht hp1 hp2 G hd _ _ _ ht hF) (v_all_c rfl (v_all_c rfl (v_all_c rfl v_all_n)))
set_option maxRecDepth 100000 in
set_option maxHeartbeats 4000000 in
theorem s_X7_restBy {l : Launch} {s0 : State} {D : va_G} {a0 : Array Value} {sh : List Sh} {f : Nat} {S : St} {t : Nat} {p1 : Int32} (ht : isX7 sh t) {r : Int32} (G : GC l s0 D a0) (hF : F_X7_restBy sh f S t p1 = some r) {d : Nat} (hd : 1 ≤ d) : Sp l s0 D d 0 0 mX7_restBy (fun v h => v = some (.int r) ∧ h = wd s0.heap.size sh S) v_noX [.ref (s0.heap.size + t), .int p1] (wd s0.heap.size sh S) := by
  obtain ⟨d, rfl⟩ : ∃ e, d = e + 1 := ⟨d - 1, by omega⟩
  refine Sp.of (by decide +kernel) rfl (Nat.le_of_ble_eq_true rfl) ?_
  unfold F_X7_restBy at hF
  refine V_iload_n dX7_restBy_0 rfl ?_
  refine V_if_lt (tgt := 19) dX7_restBy_1 (by decide) (fun c => ?_) (fun c => ?_)
  · replace hF := (if_pos c).symm.trans hF
    refine V_iconst (v := -1) dX7_restBy_19 (by decide) ?_
    cases hF
    exact V_ireturn dX7_restBy_20 rfl rfl ⟨rfl, rfl⟩
  · replace hF := (if_neg c).symm.trans hF
    refine V_iload_n dX7_restBy_4 rfl ?_
    refine V_iconst (v := 4) dX7_restBy_5 (by decide) ?_
    refine V_icmp_ge (tgt := 19) dX7_restBy_6 (by decide) (fun c => ?_) (fun c => ?_)
    · replace hF := (if_pos c).symm.trans hF
      refine V_iconst (v := -1) dX7_restBy_19 (by decide) ?_
      cases hF
      exact V_ireturn dX7_restBy_20 rfl rfl ⟨rfl, rfl⟩
    · replace hF := (if_neg c).symm.trans hF
      refine V_aload_n dX7_restBy_9 rfl ?_
      refine X_gC G dX7_restBy_10 fX7_11 ht.1 rfl ?_
      refine V_iload_n dX7_restBy_13 rfl ?_
      obtain ⟨hz, hF⟩ := gv_out hF
      refine X_lald dX7_restBy_14 ht.2.1 hz ?_
      refine V_l2i dX7_restBy_15 ?_
      refine V_goto (tgt := 20) dX7_restBy_16 (by decide) ?_
      cases hF
      exact V_ireturn dX7_restBy_20 rfl rfl ⟨rfl, rfl⟩
set_option maxRecDepth 100000 in
set_option maxHeartbeats 4000000 in
theorem s_X7_joinedRests {l : Launch} {s0 : State} {D : va_G} {a0 : Array Value} {sh : List Sh} {f : Nat} {S : St} {t : Nat} (ht : isX7 sh t) {r : Int64} (G : GC l s0 D a0) (hF : F_X7_joinedRests sh f S t = some r) {d : Nat} (hd : 2 ≤ d) : Sp l s0 D d 0 0 mX7_joinedRests (fun v h => v = some (.long r) ∧ h = wd s0.heap.size sh S) v_noX [.ref (s0.heap.size + t)] (wd s0.heap.size sh S) := by
  obtain ⟨d, rfl⟩ : ∃ e, d = e + 1 := ⟨d - 1, by omega⟩
  refine Sp.of (by decide +kernel) rfl (Nat.le_of_ble_eq_true rfl) ?_
  unfold F_X7_joinedRests at hF
  refine V_gtab G dX7_joinedRests_0 (v_tb2) zX7_78 (fun a1 ha1 => ?_)
  refine V_iconst (v := 0) dX7_joinedRests_3 (by decide) ?_
  obtain ⟨hz, hF⟩ := gv_out hF
  refine V_tald (f := v_tf v_T2) dX7_joinedRests_4 ha1 hz ?_
  refine V_i2l dX7_joinedRests_5 ?_
  obtain ⟨x2, qx2, hF⟩ := bnd_g hF
  refine B_lstore_n qx2 dX7_joinedRests_6 (by decide) ?_
  refine V_gtab G dX7_joinedRests_7 (v_tb2) zX7_78 (fun a3 ha3 => ?_)
  refine V_iconst (v := 1) dX7_joinedRests_10 (by decide) ?_
  obtain ⟨hz, hF⟩ := gv_out hF
  refine V_tald (f := v_tf v_T2) dX7_joinedRests_11 ha3 hz ?_
  refine V_i2l dX7_joinedRests_12 ?_
  obtain ⟨x4, qx4, hF⟩ := bnd_g hF
  refine B_lstore_n qx4 dX7_joinedRests_13 (by decide) ?_
  refine V_gtab G dX7_joinedRests_14 (v_tb2) zX7_78 (fun a5 ha5 => ?_)
  refine V_iconst (v := 2) dX7_joinedRests_17 (by decide) ?_
  obtain ⟨hz, hF⟩ := gv_out hF
  refine V_tald (f := v_tf v_T2) dX7_joinedRests_18 ha5 hz ?_
  refine V_i2l dX7_joinedRests_19 ?_
  obtain ⟨x6, qx6, hF⟩ := bnd_g hF
  refine B_lstore qx6 dX7_joinedRests_20 (by decide) ?_
  refine V_aload_n dX7_joinedRests_22 rfl ?_
  refine X_gC G dX7_joinedRests_23 fX7_11 ht.1 rfl ?_
  refine V_iconst (v := 1) dX7_joinedRests_26 (by decide) ?_
  obtain ⟨hz, hF⟩ := gv_out hF
  refine X_lald dX7_joinedRests_27 ht.2.1 hz ?_
  refine V_aload_n dX7_joinedRests_28 rfl ?_
  refine X_gC G dX7_joinedRests_29 fX7_11 ht.1 rfl ?_
  refine V_iconst (v := 0) dX7_joinedRests_32 (by decide) ?_
  obtain ⟨hz, hF⟩ := gv_out hF
  refine X_lald dX7_joinedRests_33 ht.2.1 hz ?_
  refine V_lsub dX7_joinedRests_34 ?_
  refine V_lload_n dX7_joinedRests_35 rfl ?_
  refine V_lload_n dX7_joinedRests_36 rfl ?_
  obtain ⟨y7, hc, hF⟩ := bd hF
  refine V_callS dX7_joinedRests_37 kX7_96 (s_X7_inverse G hc (by omega)) rfl (Nat.le_of_ble_eq_true rfl) (fun _ _ _ q => q.elim) ?_
  rintro _ _ ⟨rfl, rfl⟩
  refine V_lmul dX7_joinedRests_40 ?_
  refine V_lload_n dX7_joinedRests_41 rfl ?_
  obtain ⟨y8, hc, hF⟩ := bd hF
  refine V_callS dX7_joinedRests_42 kX7_81 (s_J9_floorMod_f86c9 G hc (by omega)) rfl (Nat.le_of_ble_eq_true rfl) (fun _ _ _ q => q.elim) ?_
  rintro _ _ ⟨rfl, rfl⟩
  refine V_lstore dX7_joinedRests_45 (by decide) ?_
  refine V_aload_n dX7_joinedRests_47 rfl ?_
  refine X_gC G dX7_joinedRests_48 fX7_11 ht.1 rfl ?_
  refine V_iconst (v := 0) dX7_joinedRests_51 (by decide) ?_
  obtain ⟨hz, hF⟩ := gv_out hF
  refine X_lald dX7_joinedRests_52 ht.2.1 hz ?_
  refine V_lload_n dX7_joinedRests_53 rfl ?_
  refine V_lload dX7_joinedRests_54 rfl ?_
  refine V_lmul dX7_joinedRests_56 ?_
  refine V_ladd dX7_joinedRests_57 ?_
  obtain ⟨x9, qx9, hF⟩ := bnd_g hF
  refine B_lstore qx9 dX7_joinedRests_58 (by decide) ?_
  refine V_lload_n dX7_joinedRests_60 rfl ?_
  refine V_lload_n dX7_joinedRests_61 rfl ?_
  refine V_lmul dX7_joinedRests_62 ?_
  obtain ⟨x10, qx10, hF⟩ := bnd_g hF
  refine B_lstore qx10 dX7_joinedRests_63 (by decide) ?_
  refine V_aload_n dX7_joinedRests_65 rfl ?_
  refine X_gC G dX7_joinedRests_66 fX7_11 ht.1 rfl ?_
  refine V_iconst (v := 2) dX7_joinedRests_69 (by decide) ?_
  obtain ⟨hz, hF⟩ := gv_out hF
  refine X_lald dX7_joinedRests_70 ht.2.1 hz ?_
  refine V_lload dX7_joinedRests_71 rfl ?_
  refine V_lsub dX7_joinedRests_73 ?_
  refine V_lload dX7_joinedRests_74 rfl ?_
  obtain ⟨y11, hc, hF⟩ := bd hF
  refine V_callS dX7_joinedRests_76 kX7_81 (s_J9_floorMod_f86c9 G hc (by omega)) rfl (Nat.le_of_ble_eq_true rfl) (fun _ _ _ q => q.elim) ?_
  rintro _ _ ⟨rfl, rfl⟩
  refine V_lload dX7_joinedRests_79 rfl ?_
  refine V_lload dX7_joinedRests_81 rfl ?_
  obtain ⟨y12, hc, hF⟩ := bd hF
  refine V_callS dX7_joinedRests_83 kX7_96 (s_X7_inverse G hc (by omega)) rfl (Nat.le_of_ble_eq_true rfl) (fun _ _ _ q => q.elim) ?_
  rintro _ _ ⟨rfl, rfl⟩
  refine V_lmul dX7_joinedRests_86 ?_
  refine V_lload dX7_joinedRests_87 rfl ?_
  obtain ⟨hz, hF⟩ := gv_out hF
  refine V_lrem dX7_joinedRests_89 hz ?_
  obtain ⟨x13, qx13, hF⟩ := bnd_g hF
  refine B_lstore qx13 dX7_joinedRests_90 (by decide) ?_
  refine V_lload dX7_joinedRests_92 rfl ?_
  refine V_lload dX7_joinedRests_94 rfl ?_
  refine V_lload dX7_joinedRests_96 rfl ?_
  refine V_lmul dX7_joinedRests_98 ?_
  refine V_ladd dX7_joinedRests_99 ?_
  cases hF
  exact V_lreturn dX7_joinedRests_100 rfl ⟨rfl, rfl⟩
set_option maxRecDepth 100000 in
set_option maxHeartbeats 4000000 in
theorem w_X7_divisorOf_L9 {l : Launch} {s0 : State} {D : va_G} {a0 : Array Value} {sh : List Sh} {f : Nat} {S : St} {p0 : Int64} {p2 : Int64} {r : Int64} {d : Nat} (G : GC l s0 D a0) (hd : 1 ≤ d + 1) : ∀ (n : Nat) (l4 : Int64) (l6 : Int64) (l8 : Int32), F_X7_divisorOf_L9 sh f S p0 p2 n l4 l6 l8 = some r → V l s0 D (d + 1) 0 0 mX7_divisorOf (fun v h => v = some (.long r) ∧ h = wd s0.heap.size sh S) v_noX 9 [(4, .long l4), (6, .long l6), (8, .int l8)] [] (wd s0.heap.size sh S) := by
  intro n
  induction n with
  | zero => intro l4 l6 l8 hF; cases hF
  | succ n ih =>
    intro l4 l6 l8 hF
    unfold F_X7_divisorOf_L9 at hF
    refine V_iload dX7_divisorOf_9 rfl ?_
    refine V_bipush (v := 100) dX7_divisorOf_11 (by decide) ?_
    refine V_icmp_ge (tgt := 44) dX7_divisorOf_13 (by decide) (fun c => ?_) (fun c => ?_)
    · replace hF := (if_pos c).symm.trans hF
      refine V_lload dX7_divisorOf_44 rfl ?_
      cases hF
      exact V_lreturn dX7_divisorOf_46 rfl ⟨rfl, rfl⟩
    · replace hF := (if_neg c).symm.trans hF
      refine V_lload dX7_divisorOf_16 rfl ?_
      refine V_lconst (v := 0) dX7_divisorOf_18 (by decide) ?_
      refine V_lcmp dX7_divisorOf_19 ?_
      refine V_if_eq (tgt := 44) dX7_divisorOf_20 (by decide) (fun c => ?_) (fun c => ?_)
      · replace hF := (if_pos c).symm.trans hF
        refine V_lload dX7_divisorOf_44 rfl ?_
        cases hF
        exact V_lreturn dX7_divisorOf_46 rfl ⟨rfl, rfl⟩
      · replace hF := (if_neg c).symm.trans hF
        refine V_lload dX7_divisorOf_23 rfl ?_
        refine V_lload dX7_divisorOf_25 rfl ?_
        obtain ⟨hz, hF⟩ := gv_out hF
        refine V_lrem dX7_divisorOf_27 hz ?_
        obtain ⟨x1, qx1, hF⟩ := bnd_g hF
        refine B_lstore qx1 dX7_divisorOf_28 (by decide) ?_
        refine V_lload dX7_divisorOf_30 rfl ?_
        refine V_lstore dX7_divisorOf_32 (by decide) ?_
        refine V_lload dX7_divisorOf_34 rfl ?_
        refine V_lstore dX7_divisorOf_36 (by decide) ?_
        obtain ⟨x2, qx2, hF⟩ := bnd_g hF
        refine B_iinc (v := 1) qx2 dX7_divisorOf_38 rfl (by decide) (by decide) ?_
        refine V_goto (tgt := 9) dX7_divisorOf_41 (by decide) ?_
        exact V_lv' (ih _ _ _ hF) (v_all_c rfl (v_all_c rfl (v_all_c rfl v_all_n)))
set_option maxRecDepth 100000 in
set_option maxHeartbeats 4000000 in
theorem s_X7_divisorOf {l : Launch} {s0 : State} {D : va_G} {a0 : Array Value} {sh : List Sh} {f : Nat} {S : St} {p0 : Int64} {p2 : Int64} {r : Int64} (G : GC l s0 D a0) (hF : F_X7_divisorOf sh f S p0 p2 = some r) {d : Nat} (hd : 1 ≤ d) : Sp l s0 D d 0 0 mX7_divisorOf (fun v h => v = some (.long r) ∧ h = wd s0.heap.size sh S) v_noX [.long p0, .long p2] (wd s0.heap.size sh S) := by
  obtain ⟨d, rfl⟩ : ∃ e, d = e + 1 := ⟨d - 1, by omega⟩
  refine Sp.of (by decide +kernel) rfl (Nat.le_of_ble_eq_true rfl) ?_
  unfold F_X7_divisorOf at hF
  refine V_lload_n dX7_divisorOf_0 rfl ?_
  refine V_lstore dX7_divisorOf_1 (by decide) ?_
  refine V_lload_n dX7_divisorOf_3 rfl ?_
  refine V_lstore dX7_divisorOf_4 (by decide) ?_
  refine V_iconst (v := 0) dX7_divisorOf_6 (by decide) ?_
  refine V_istore dX7_divisorOf_7 (by decide) ?_
  exact V_lv' (w_X7_divisorOf_L9  G hd f _ _ _ hF) (v_all_c rfl (v_all_c rfl (v_all_c rfl v_all_n)))
set_option maxRecDepth 100000 in
set_option maxHeartbeats 4000000 in
theorem s_X7_takeFraction {l : Launch} {s0 : State} {D : va_G} {a0 : Array Value} {sh : List Sh} {f : Nat} {S : St} {t : Nat} {p1 : Int64} {p3 : Int64} (ht : isX7 sh t) {r : Int32 × St} (G : GC l s0 D a0) (hF : F_X7_takeFraction sh f S t p1 p3 = some r) {d : Nat} (hd : 2 ≤ d) : Sp l s0 D d 0 0 mX7_takeFraction (fun v h => v = some (.int r.1) ∧ h = wd s0.heap.size sh r.2) v_noX [.ref (s0.heap.size + t), .long p1, .long p3] (wd s0.heap.size sh S) := by
  obtain ⟨d, rfl⟩ : ∃ e, d = e + 1 := ⟨d - 1, by omega⟩
  refine Sp.of (by decide +kernel) rfl (Nat.le_of_ble_eq_true rfl) ?_
  unfold F_X7_takeFraction at hF
  refine V_lload_n dX7_takeFraction_0 rfl ?_
  refine V_lconst (v := 1) dX7_takeFraction_1 (by decide) ?_
  refine V_lcmp dX7_takeFraction_2 ?_
  refine V_if_lt (tgt := 27) dX7_takeFraction_3 (by decide) (fun c => ?_) (fun c => ?_)
  · replace hF := (if_pos c).symm.trans hF
    refine V_iconst (v := 0) dX7_takeFraction_27 (by decide) ?_
    cases hF
    exact V_ireturn dX7_takeFraction_28 rfl (by decide) ⟨rfl, rfl⟩
  · replace hF := (if_neg c).symm.trans hF
    refine V_lload_n dX7_takeFraction_6 rfl ?_
    refine V_ldc2 dX7_takeFraction_7 qX7_105 ?_
    refine V_lcmp dX7_takeFraction_10 ?_
    refine V_if_gt (tgt := 27) dX7_takeFraction_11 (by decide) (fun c => ?_) (fun c => ?_)
    · replace hF := (if_pos c).symm.trans hF
      refine V_iconst (v := 0) dX7_takeFraction_27 (by decide) ?_
      cases hF
      exact V_ireturn dX7_takeFraction_28 rfl (by decide) ⟨rfl, rfl⟩
    · replace hF := (if_neg c).symm.trans hF
      refine V_lload_n dX7_takeFraction_14 rfl ?_
      obtain ⟨y1, hc, hF⟩ := bd hF
      refine V_callS dX7_takeFraction_15 kX7_107 (s_J9_abs_067f4 G hc (by omega)) rfl (Nat.le_of_ble_eq_true rfl) (fun _ _ _ q => q.elim) ?_
      rintro _ _ ⟨rfl, rfl⟩
      refine V_lload_n dX7_takeFraction_18 rfl ?_
      obtain ⟨y2, hc, hF⟩ := bd hF
      refine V_callS dX7_takeFraction_19 kX7_115 (s_X7_divisorOf G hc (by omega)) rfl (Nat.le_of_ble_eq_true rfl) (fun _ _ _ q => q.elim) ?_
      rintro _ _ ⟨rfl, rfl⟩
      refine V_lconst (v := 1) dX7_takeFraction_22 (by decide) ?_
      refine V_lcmp dX7_takeFraction_23 ?_
      refine V_if_eq (tgt := 29) dX7_takeFraction_24 (by decide) (fun c => ?_) (fun c => ?_)
      · replace hF := (if_pos c).symm.trans hF
        refine V_gtab G dX7_takeFraction_29 (v_tb2) zX7_78 (fun a3 ha3 => ?_)
        refine V_iconst (v := 3) dX7_takeFraction_32 (by decide) ?_
        obtain ⟨hz, hF⟩ := gv_out hF
        refine V_tald (f := v_tf v_T2) dX7_takeFraction_33 ha3 hz ?_
        refine V_i2l dX7_takeFraction_34 ?_
        obtain ⟨x4, qx4, hF⟩ := bnd_g hF
        refine B_lstore qx4 dX7_takeFraction_35 (by decide) ?_
        refine V_lload_n dX7_takeFraction_37 rfl ?_
        refine V_lload_n dX7_takeFraction_38 rfl ?_
        refine V_aload_n dX7_takeFraction_39 rfl ?_
        refine X_gC G dX7_takeFraction_40 fX7_11 ht.1 rfl ?_
        refine V_iconst (v := 3) dX7_takeFraction_43 (by decide) ?_
        obtain ⟨hz, hF⟩ := gv_out hF
        refine X_lald dX7_takeFraction_44 ht.2.1 hz ?_
        refine V_lmul dX7_takeFraction_45 ?_
        refine V_lsub dX7_takeFraction_46 ?_
        refine V_lload dX7_takeFraction_47 rfl ?_
        obtain ⟨y5, hc, hF⟩ := bd hF
        refine V_callS dX7_takeFraction_49 kX7_81 (s_J9_floorMod_f86c9 G hc (by omega)) rfl (Nat.le_of_ble_eq_true rfl) (fun _ _ _ q => q.elim) ?_
        rintro _ _ ⟨rfl, rfl⟩
        refine V_lconst (v := 0) dX7_takeFraction_52 (by decide) ?_
        refine V_lcmp dX7_takeFraction_53 ?_
        refine V_if_eq (tgt := 59) dX7_takeFraction_54 (by decide) (fun c => ?_) (fun c => ?_)
        · replace hF := (if_pos c).symm.trans hF
          refine V_aload_n dX7_takeFraction_59 rfl ?_
          refine V_lload_n dX7_takeFraction_60 rfl ?_
          refine X_pJ G dX7_takeFraction_61 gX7_118 ht.1 rfl ?_
          obtain ⟨S6, qS6, hF⟩ := bnd_g hF
          refine V_eqS qS6 ?_
          refine V_aload_n dX7_takeFraction_64 rfl ?_
          refine V_lload_n dX7_takeFraction_65 rfl ?_
          refine X_pJ G dX7_takeFraction_66 gX7_122 ht.1 rfl ?_
          obtain ⟨S7, qS7, hF⟩ := bnd_g hF
          refine V_eqS qS7 ?_
          refine V_iconst (v := 1) dX7_takeFraction_69 (by decide) ?_
          cases hF
          exact V_ireturn dX7_takeFraction_70 rfl (by decide) ⟨rfl, rfl⟩
        · replace hF := (if_neg c).symm.trans hF
          refine V_iconst (v := 0) dX7_takeFraction_57 (by decide) ?_
          cases hF
          exact V_ireturn dX7_takeFraction_58 rfl (by decide) ⟨rfl, rfl⟩
      · replace hF := (if_neg c).symm.trans hF
        refine V_iconst (v := 0) dX7_takeFraction_27 (by decide) ?_
        cases hF
        exact V_ireturn dX7_takeFraction_28 rfl (by decide) ⟨rfl, rfl⟩
set_option maxRecDepth 100000 in
set_option maxHeartbeats 4000000 in
theorem w_X7_findFraction_L101 {l : Launch} {s0 : State} {D : va_G} {a0 : Array Value} {sh : List Sh} {f : Nat} {t : Nat} (ht : isX7 sh t) {r : Int32 × St} {d : Nat} (G : GC l s0 D a0) (hd : 3 ≤ d + 1) : ∀ (S : St) (l3 : Int64) (l7 : Int64), F_X7_findFraction_L101 sh f t S l3 l7 = some r → V l s0 D (d + 1) 0 0 mX7_findFraction (fun v h => v = some (.int r.1) ∧ h = wd s0.heap.size sh r.2) v_noX 101 [(0, .ref (s0.heap.size + t)), (3, .long l3), (7, .long l7)] [] (wd s0.heap.size sh S) := by
  intro S l3 l7 hF
  unfold F_X7_findFraction_L101 at hF
  refine V_lload_n dX7_findFraction_101 rfl ?_
  refine V_ldc2 dX7_findFraction_102 qX7_105 ?_
  refine V_lcmp dX7_findFraction_105 ?_
  refine V_if_gt (tgt := 138) dX7_findFraction_106 (by decide) (fun c => ?_) (fun c => ?_)
  · replace hF := (if_pos c).symm.trans hF
    refine V_iconst (v := 0) dX7_findFraction_138 (by decide) ?_
    cases hF
    exact V_ireturn dX7_findFraction_139 rfl (by decide) ⟨rfl, rfl⟩
  · replace hF := (if_neg c).symm.trans hF
    refine V_aload_n dX7_findFraction_109 rfl ?_
    refine V_lload dX7_findFraction_110 rfl ?_
    refine V_lconst (v := 0) dX7_findFraction_112 (by decide) ?_
    refine V_lcmp dX7_findFraction_113 ?_
    refine V_if_ge (tgt := 122) dX7_findFraction_114 (by decide) (fun c => ?_) (fun c => ?_)
    · replace hF := (if_pos c).symm.trans hF
      refine V_lload_n dX7_findFraction_122 rfl ?_
      refine V_lload dX7_findFraction_123 rfl ?_
      obtain ⟨y1, hc, hF⟩ := bd hF
      refine V_callS dX7_findFraction_125 kX7_107 (s_J9_abs_067f4 G hc (by omega)) rfl (Nat.le_of_ble_eq_true rfl) (fun _ _ _ q => q.elim) ?_
      rintro _ _ ⟨rfl, rfl⟩
      obtain ⟨y2, hc, hF⟩ := bd hF
      refine V_callV G dX7_findFraction_128 kX7_111 (wd_at ht.1) ⟨by decide, rfl⟩ (s_X7_takeFraction ht G hc (by omega)) rfl (Nat.le_of_ble_eq_true rfl) (fun _ _ _ q => q.elim) ?_
      rintro _ _ ⟨rfl, rfl⟩
      refine V_if_eq (tgt := 138) dX7_findFraction_131 (by decide) (fun c => ?_) (fun c => ?_)
      · replace hF := (if_pos c).symm.trans hF
        refine V_iconst (v := 0) dX7_findFraction_138 (by decide) ?_
        cases hF
        exact V_ireturn dX7_findFraction_139 rfl (by decide) ⟨rfl, rfl⟩
      · replace hF := (if_neg c).symm.trans hF
        refine V_iconst (v := 1) dX7_findFraction_134 (by decide) ?_
        refine V_goto (tgt := 139) dX7_findFraction_135 (by decide) ?_
        cases hF
        exact V_ireturn dX7_findFraction_139 rfl (by decide) ⟨rfl, rfl⟩
    · replace hF := (if_neg c).symm.trans hF
      refine V_lload_n dX7_findFraction_117 rfl ?_
      refine V_lneg dX7_findFraction_118 ?_
      refine V_goto (tgt := 123) dX7_findFraction_119 (by decide) ?_
      refine V_lload dX7_findFraction_123 rfl ?_
      obtain ⟨y3, hc, hF⟩ := bd hF
      refine V_callS dX7_findFraction_125 kX7_107 (s_J9_abs_067f4 G hc (by omega)) rfl (Nat.le_of_ble_eq_true rfl) (fun _ _ _ q => q.elim) ?_
      rintro _ _ ⟨rfl, rfl⟩
      obtain ⟨y4, hc, hF⟩ := bd hF
      refine V_callV G dX7_findFraction_128 kX7_111 (wd_at ht.1) ⟨by decide, rfl⟩ (s_X7_takeFraction ht G hc (by omega)) rfl (Nat.le_of_ble_eq_true rfl) (fun _ _ _ q => q.elim) ?_
      rintro _ _ ⟨rfl, rfl⟩
      refine V_if_eq (tgt := 138) dX7_findFraction_131 (by decide) (fun c => ?_) (fun c => ?_)
      · replace hF := (if_pos c).symm.trans hF
        refine V_iconst (v := 0) dX7_findFraction_138 (by decide) ?_
        cases hF
        exact V_ireturn dX7_findFraction_139 rfl (by decide) ⟨rfl, rfl⟩
      · replace hF := (if_neg c).symm.trans hF
        refine V_iconst (v := 1) dX7_findFraction_134 (by decide) ?_
        refine V_goto (tgt := 139) dX7_findFraction_135 (by decide) ?_
        cases hF
        exact V_ireturn dX7_findFraction_139 rfl (by decide) ⟨rfl, rfl⟩
set_option maxRecDepth 100000 in
set_option maxHeartbeats 4000000 in
theorem w_X7_findFraction_L44 {l : Launch} {s0 : State} {D : va_G} {a0 : Array Value} {sh : List Sh} {f : Nat} {t : Nat} (ht : isX7 sh t) {r : Int32 × St} {d : Nat} (G : GC l s0 D a0) (hd : 3 ≤ d + 1) : ∀ (n : Nat) (S : St) (l1 : Int64) (l3 : Int64) (l5 : Int64) (l7 : Int64) (l9 : Int32), F_X7_findFraction_L44 sh f t n S l1 l3 l5 l7 l9 = some r → V l s0 D (d + 1) 0 0 mX7_findFraction (fun v h => v = some (.int r.1) ∧ h = wd s0.heap.size sh r.2) v_noX 44 [(0, .ref (s0.heap.size + t)), (1, .long l1), (3, .long l3), (5, .long l5), (7, .long l7), (9, .int l9)] [] (wd s0.heap.size sh S) := by
  intro n
  induction n with
  | zero => intro S l1 l3 l5 l7 l9 hF; cases hF
  | succ n ih =>
    intro S l1 l3 l5 l7 l9 hF
    unfold F_X7_findFraction_L44 at hF
    refine V_iload dX7_findFraction_44 rfl ?_
    refine V_bipush (v := 100) dX7_findFraction_46 (by decide) ?_
    refine V_icmp_ge (tgt := 101) dX7_findFraction_48 (by decide) (fun c => ?_) (fun c => ?_)
    · replace hF := (if_pos c).symm.trans hF
      exact V_lv' (w_X7_findFraction_L101 ht G hd _ _ _ hF) (v_all_c rfl (v_all_c rfl (v_all_c rfl v_all_n)))
    · replace hF := (if_neg c).symm.trans hF
      refine V_lload_n dX7_findFraction_51 rfl ?_
      refine V_ldc2 dX7_findFraction_52 qX7_105 ?_
      refine V_lcmp dX7_findFraction_55 ?_
      refine V_if_le (tgt := 101) dX7_findFraction_56 (by decide) (fun c => ?_) (fun c => ?_)
      · replace hF := (if_pos c).symm.trans hF
        exact V_lv' (w_X7_findFraction_L101 ht G hd _ _ _ hF) (v_all_c rfl (v_all_c rfl (v_all_c rfl v_all_n)))
      · replace hF := (if_neg c).symm.trans hF
        refine V_lload_n dX7_findFraction_59 rfl ?_
        refine V_lload_n dX7_findFraction_60 rfl ?_
        obtain ⟨hz, hF⟩ := gv_out hF
        refine V_ldiv dX7_findFraction_61 hz ?_
        obtain ⟨x1, qx1, hF⟩ := bnd_g hF
        refine B_lstore qx1 dX7_findFraction_62 (by decide) ?_
        refine V_lload_n dX7_findFraction_64 rfl ?_
        refine V_lload dX7_findFraction_65 rfl ?_
        refine V_lload_n dX7_findFraction_67 rfl ?_
        refine V_lmul dX7_findFraction_68 ?_
        refine V_lsub dX7_findFraction_69 ?_
        obtain ⟨x2, qx2, hF⟩ := bnd_g hF
        refine B_lstore qx2 dX7_findFraction_70 (by decide) ?_
        refine V_lload dX7_findFraction_72 rfl ?_
        refine V_lload dX7_findFraction_74 rfl ?_
        refine V_lload dX7_findFraction_76 rfl ?_
        refine V_lmul dX7_findFraction_78 ?_
        refine V_lsub dX7_findFraction_79 ?_
        obtain ⟨x3, qx3, hF⟩ := bnd_g hF
        refine B_lstore qx3 dX7_findFraction_80 (by decide) ?_
        refine V_lload_n dX7_findFraction_82 rfl ?_
        refine V_lstore_n dX7_findFraction_83 (by decide) ?_
        refine V_lload dX7_findFraction_84 rfl ?_
        refine V_lstore_n dX7_findFraction_86 (by decide) ?_
        refine V_lload dX7_findFraction_87 rfl ?_
        refine V_lstore dX7_findFraction_89 (by decide) ?_
        refine V_lload dX7_findFraction_91 rfl ?_
        refine V_lstore dX7_findFraction_93 (by decide) ?_
        obtain ⟨x4, qx4, hF⟩ := bnd_g hF
        refine B_iinc (v := 1) qx4 dX7_findFraction_95 rfl (by decide) (by decide) ?_
        refine V_goto (tgt := 44) dX7_findFraction_98 (by decide) ?_
        exact V_lv' (ih _ _ _ _ _ _ hF) (v_all_c rfl (v_all_c rfl (v_all_c rfl (v_all_c rfl (v_all_c rfl (v_all_c rfl v_all_n))))))
set_option maxRecDepth 100000 in
set_option maxHeartbeats 4000000 in
theorem s_X7_findFraction {l : Launch} {s0 : State} {D : va_G} {a0 : Array Value} {sh : List Sh} {f : Nat} {S : St} {t : Nat} (ht : isX7 sh t) {r : Int32 × St} (G : GC l s0 D a0) (hF : F_X7_findFraction sh f S t = some r) {d : Nat} (hd : 3 ≤ d) : Sp l s0 D d 0 0 mX7_findFraction (fun v h => v = some (.int r.1) ∧ h = wd s0.heap.size sh r.2) v_noX [.ref (s0.heap.size + t)] (wd s0.heap.size sh S) := by
  obtain ⟨d, rfl⟩ : ∃ e, d = e + 1 := ⟨d - 1, by omega⟩
  refine Sp.of (by decide +kernel) rfl (Nat.le_of_ble_eq_true rfl) ?_
  unfold F_X7_findFraction at hF
  refine V_aload_n dX7_findFraction_0 rfl ?_
  refine X_gI G dX7_findFraction_1 fX7_22 ht.1 rfl ?_
  refine V_if_eq (tgt := 9) dX7_findFraction_4 (by decide) (fun c => ?_) (fun c => ?_)
  · replace hF := (if_pos c).symm.trans hF
    refine V_gtab G dX7_findFraction_9 (v_tb2) zX7_78 (fun a1 ha1 => ?_)
    refine V_iconst (v := 0) dX7_findFraction_12 (by decide) ?_
    obtain ⟨hz, hF⟩ := gv_out hF
    refine V_tald (f := v_tf v_T2) dX7_findFraction_13 ha1 hz ?_
    refine V_i2l dX7_findFraction_14 ?_
    refine V_gtab G dX7_findFraction_15 (v_tb2) zX7_78 (fun a2 ha2 => ?_)
    refine V_iconst (v := 1) dX7_findFraction_18 (by decide) ?_
    obtain ⟨hz, hF⟩ := gv_out hF
    refine V_tald (f := v_tf v_T2) dX7_findFraction_19 ha2 hz ?_
    refine V_i2l dX7_findFraction_20 ?_
    refine V_lmul dX7_findFraction_21 ?_
    refine V_gtab G dX7_findFraction_22 (v_tb2) zX7_78 (fun a3 ha3 => ?_)
    refine V_iconst (v := 2) dX7_findFraction_25 (by decide) ?_
    obtain ⟨hz, hF⟩ := gv_out hF
    refine V_tald (f := v_tf v_T2) dX7_findFraction_26 ha3 hz ?_
    refine V_i2l dX7_findFraction_27 ?_
    refine V_lmul dX7_findFraction_28 ?_
    obtain ⟨x4, qx4, hF⟩ := bnd_g hF
    refine B_lstore_n qx4 dX7_findFraction_29 (by decide) ?_
    refine V_aload_n dX7_findFraction_30 rfl ?_
    obtain ⟨y5, hc, hF⟩ := bd hF
    refine V_callV G dX7_findFraction_31 kX7_101 (wd_at ht.1) ⟨by decide, rfl⟩ (s_X7_joinedRests ht G hc (by omega)) rfl (Nat.le_of_ble_eq_true rfl) (fun _ _ _ q => q.elim) ?_
    rintro _ _ ⟨rfl, rfl⟩
    refine V_lstore_n dX7_findFraction_34 (by decide) ?_
    refine V_lconst (v := 0) dX7_findFraction_35 (by decide) ?_
    refine V_lstore dX7_findFraction_36 (by decide) ?_
    refine V_lconst (v := 1) dX7_findFraction_38 (by decide) ?_
    refine V_lstore dX7_findFraction_39 (by decide) ?_
    refine V_iconst (v := 0) dX7_findFraction_41 (by decide) ?_
    refine V_istore dX7_findFraction_42 (by decide) ?_
    exact V_lv' (w_X7_findFraction_L44 ht G hd f _ _ _ _ _ _ hF) (v_all_c rfl (v_all_c rfl (v_all_c rfl (v_all_c rfl (v_all_c rfl (v_all_c rfl v_all_n))))))
  · replace hF := (if_neg c).symm.trans hF
    refine V_iconst (v := 0) dX7_findFraction_7 (by decide) ?_
    cases hF
    exact V_ireturn dX7_findFraction_8 rfl (by decide) ⟨rfl, rfl⟩
set_option maxRecDepth 100000 in
set_option maxHeartbeats 4000000 in
theorem s_X8_feed {l : Launch} {s0 : State} {D : va_G} {a0 : Array Value} {sh : List Sh} {f : Nat} {S : St} {t : Nat} {p1 : Int32} {p2 : Int32} {p3 : Int32} {p4 : Int32} {p5 : Int32} (ht : isX8 sh t) {r : Int32 × St} (G : GC l s0 D a0) (hF : F_X8_feed sh f S t p1 p2 p3 p4 p5 = some r) {d : Nat} (hd : 3 ≤ d) : Sp l s0 D d 0 0 mX8_feed (fun v h => v = some (.int r.1) ∧ h = wd s0.heap.size sh r.2) v_noX [.ref (s0.heap.size + t), .int p1, .int p2, .int p3, .int p4, .int p5] (wd s0.heap.size sh S) := by
  obtain ⟨d, rfl⟩ : ∃ e, d = e + 1 := ⟨d - 1, by omega⟩
  refine Sp.of (by decide +kernel) rfl (Nat.le_of_ble_eq_true rfl) ?_
  unfold F_X8_feed at hF
  refine V_aload_n dX8_feed_0 rfl ?_
  refine X_gC G dX8_feed_1 fX8_10 ht.1 rfl ?_
  refine V_iload_n dX8_feed_4 rfl ?_
  refine V_iload_n dX8_feed_5 rfl ?_
  refine V_iload_n dX8_feed_6 rfl ?_
  refine V_iload dX8_feed_7 rfl ?_
  refine V_iload dX8_feed_9 rfl ?_
  obtain ⟨y1, hc, hF⟩ := bd hF
  refine V_callV G dX8_feed_11 kX8_80 (wd_at ht.2.1.1) ⟨by decide, rfl⟩ (s_X6_take ht.2.1 G hc (by omega)) rfl (Nat.le_of_ble_eq_true rfl) (fun _ _ _ q => q.elim) ?_
  rintro _ _ ⟨rfl, rfl⟩
  cases hF
  exact V_ireturn dX8_feed_14 rfl rfl ⟨rfl, rfl⟩
set_option maxRecDepth 100000 in
set_option maxHeartbeats 4000000 in
theorem s_X8_refused {l : Launch} {s0 : State} {D : va_G} {a0 : Array Value} {sh : List Sh} {f : Nat} {S : St} {t : Nat} {p1 : Int32} (ht : isX8 sh t) {r : Int32 × St} (G : GC l s0 D a0) (hF : F_X8_refused sh f S t p1 = some r) {d : Nat} (hd : 1 ≤ d) : Sp l s0 D d 0 0 mX8_refused (fun v h => v = some (.int r.1) ∧ h = wd s0.heap.size sh r.2) v_noX [.ref (s0.heap.size + t), .int p1] (wd s0.heap.size sh S) := by
  obtain ⟨d, rfl⟩ : ∃ e, d = e + 1 := ⟨d - 1, by omega⟩
  refine Sp.of (by decide +kernel) rfl (Nat.le_of_ble_eq_true rfl) ?_
  unfold F_X8_refused at hF
  refine V_aload_n dX8_refused_0 rfl ?_
  refine V_iload_n dX8_refused_1 rfl ?_
  refine X_pI G dX8_refused_2 gX8_106 ht.1 rfl rfl rfl ?_
  obtain ⟨S1, qS1, hF⟩ := bnd_g hF
  refine V_eqS qS1 ?_
  refine V_iconst (v := -1) dX8_refused_5 (by decide) ?_
  cases hF
  exact V_ireturn dX8_refused_6 rfl rfl ⟨rfl, rfl⟩
set_option maxRecDepth 100000 in
set_option maxHeartbeats 4000000 in
theorem w_X8_book_L87 {l : Launch} {s0 : State} {D : va_G} {a0 : Array Value} {sh : List Sh} {f : Nat} {t : Nat} {p1 : Int32} (ht : isX8 sh t) {r : Int32 × St} {d : Nat} (G : GC l s0 D a0) (hd : 8 ≤ d + 1) : ∀ (n : Nat) (S : St) (l4 : Int32), F_X8_book_L87 sh f t p1 n S l4 = some r → V l s0 D (d + 1) 0 0 mX8_book (fun v h => v = some (.int r.1) ∧ h = wd s0.heap.size sh r.2) v_noX 87 [(0, .ref (s0.heap.size + t)), (4, .int l4)] [] (wd s0.heap.size sh S) := by
  intro n
  induction n with
  | zero => intro S l4 hF; cases hF
  | succ n ih =>
    intro S l4 hF
    unfold F_X8_book_L87 at hF
    refine V_iload dX8_book_87 rfl ?_
    refine V_iconst (v := 3) dX8_book_89 (by decide) ?_
    refine V_icmp_ge (tgt := 107) dX8_book_90 (by decide) (fun c => ?_) (fun c => ?_)
    · replace hF := (if_pos c).symm.trans hF
      refine V_aload_n dX8_book_107 rfl ?_
      refine V_iconst (v := 0) dX8_book_108 (by decide) ?_
      refine X_pI G dX8_book_109 gX8_106 ht.1 rfl rfl rfl ?_
      obtain ⟨S1, qS1, hF⟩ := bnd_g hF
      refine V_eqS qS1 ?_
      refine V_aload_n dX8_book_112 rfl ?_
      obtain ⟨b2, hrb2, hF⟩ := bd hF
      obtain ⟨hb2, hF⟩ := gv_in hF
      replace hb2 := ckX0_ok hb2
      refine X_gR G dX8_book_113 fX8_63 ht.1 rfl hrb2 ?_
      refine X_gI G dX8_book_116 fX8_109 hb2.1 rfl ?_
      cases hF
      exact V_ireturn dX8_book_119 rfl rfl ⟨rfl, rfl⟩
    · replace hF := (if_neg c).symm.trans hF
      refine V_aload_n dX8_book_93 rfl ?_
      refine X_gC G dX8_book_94 fX8_53 ht.1 rfl ?_
      refine V_iload dX8_book_97 rfl ?_
      refine V_iconst (v := 1) dX8_book_99 (by decide) ?_
      obtain ⟨hz, hF⟩ := gv_out hF
      refine X_iast dX8_book_100 ht.2.2.2.2.2.2.2.2.2.1 hz ?_
      obtain ⟨S3, qS3, hF⟩ := bnd_g hF
      refine V_eqS qS3 ?_
      obtain ⟨x4, qx4, hF⟩ := bnd_g hF
      refine B_iinc (v := 1) qx4 dX8_book_101 rfl (by decide) (by decide) ?_
      refine V_goto (tgt := 87) dX8_book_104 (by decide) ?_
      exact V_lv' (ih _ _ hF) (v_all_c rfl (v_all_c rfl v_all_n))
set_option maxRecDepth 100000 in
set_option maxHeartbeats 4000000 in
theorem s_X8_book {l : Launch} {s0 : State} {D : va_G} {a0 : Array Value} {sh : List Sh} {f : Nat} {S : St} {t : Nat} {p1 : Int32} (ht : isX8 sh t) {r : Int32 × St} (G : GC l s0 D a0) (hF : F_X8_book sh f S t p1 = some r) {d : Nat} (hd : 8 ≤ d) : Sp l s0 D d 0 0 mX8_book (fun v h => v = some (.int r.1) ∧ h = wd s0.heap.size sh r.2) v_noX [.ref (s0.heap.size + t), .int p1] (wd s0.heap.size sh S) := by
  obtain ⟨d, rfl⟩ : ∃ e, d = e + 1 := ⟨d - 1, by omega⟩
  refine Sp.of (by decide +kernel) rfl (Nat.le_of_ble_eq_true rfl) ?_
  unfold F_X8_book at hF
  refine V_iload_n dX8_book_0 rfl ?_
  refine V_if_lt (tgt := 15) dX8_book_1 (by decide) (fun c => ?_) (fun c => ?_)
  · replace hF := (if_pos c).symm.trans hF
    refine V_aload_n dX8_book_15 rfl ?_
    refine V_iconst (v := 2) dX8_book_16 (by decide) ?_
    obtain ⟨y1, hc, hF⟩ := bd hF
    refine V_callV G dX8_book_17 kX8_88 (wd_at ht.1) ⟨by decide, rfl⟩ (s_X8_refused ht G hc (by omega)) rfl (Nat.le_of_ble_eq_true rfl) (fun _ _ _ q => q.elim) ?_
    rintro _ _ ⟨rfl, rfl⟩
    cases hF
    exact V_ireturn dX8_book_20 rfl rfl ⟨rfl, rfl⟩
  · replace hF := (if_neg c).symm.trans hF
    refine V_iload_n dX8_book_4 rfl ?_
    refine V_aload_n dX8_book_5 rfl ?_
    refine X_gC G dX8_book_6 fX8_10 ht.1 rfl ?_
    refine X_gI G dX8_book_9 fX8_84 ht.2.1.1 rfl ?_
    refine V_icmp_le (tgt := 21) dX8_book_12 (by decide) (fun c => ?_) (fun c => ?_)
    · replace hF := (if_pos c).symm.trans hF
      refine V_aload_n dX8_book_21 rfl ?_
      refine X_gC G dX8_book_22 fX8_10 ht.1 rfl ?_
      refine V_iload_n dX8_book_25 rfl ?_
      obtain ⟨y2, hc, hF⟩ := bd hF
      refine V_callV G dX8_book_26 kX8_92 (wd_at ht.2.1.1) ⟨by decide, rfl⟩ (s_X6_read ht.2.1 G hc (by omega)) rfl (Nat.le_of_ble_eq_true rfl) (fun _ _ _ q => q.elim) ?_
      rintro _ _ ⟨rfl, rfl⟩
      obtain ⟨x3, qx3, hF⟩ := bnd_g hF
      refine B_istore_n qx3 dX8_book_29 (by decide) ?_
      refine V_aload_n dX8_book_30 rfl ?_
      refine X_gC G dX8_book_31 fX8_10 ht.1 rfl ?_
      refine V_iconst (v := 0) dX8_book_34 (by decide) ?_
      refine X_pI G dX8_book_35 gX8_84 ht.2.1.1 rfl rfl rfl ?_
      obtain ⟨S4, qS4, hF⟩ := bnd_g hF
      refine V_eqS qS4 ?_
      refine V_iload_n dX8_book_38 rfl ?_
      refine V_if_ne (tgt := 48) dX8_book_39 (by decide) (fun c => ?_) (fun c => ?_)
      · replace hF := (if_neg c).symm.trans hF
        refine V_aload_n dX8_book_48 rfl ?_
        obtain ⟨b5, hrb5, hF⟩ := bd hF
        obtain ⟨hb5, hF⟩ := gv_in hF
        replace hb5 := ckX0_ok hb5
        refine X_gR G dX8_book_49 fX8_63 ht.1 rfl hrb5 ?_
        refine V_astore_n dX8_book_52 (by decide) ?_
        refine V_aload_n dX8_book_53 rfl ?_
        refine V_aload_n dX8_book_54 rfl ?_
        refine X_gC G dX8_book_55 fX8_10 ht.1 rfl ?_
        obtain ⟨b6, hrb6, hF⟩ := bd hF
        obtain ⟨hb6, hF⟩ := gv_in hF
        replace hb6 := ckX0_ok hb6
        refine X_gR G dX8_book_58 fX8_96 ht.2.1.1 rfl hrb6 ?_
        refine X_pR G dX8_book_61 gX8_63 ht.1 rfl rfl rfl ?_
        obtain ⟨S7, qS7, hF⟩ := bnd_g hF
        refine V_eqS qS7 ?_
        refine V_aload_n dX8_book_64 rfl ?_
        refine X_gC G dX8_book_65 fX8_10 ht.1 rfl ?_
        refine V_aload_n dX8_book_68 rfl ?_
        refine X_pR G dX8_book_69 gX8_96 ht.2.1.1 rfl rfl rfl ?_
        obtain ⟨S8, qS8, hF⟩ := bnd_g hF
        refine V_eqS qS8 ?_
        refine V_aload_n dX8_book_72 rfl ?_
        refine X_gC G dX8_book_73 fX8_33 ht.1 rfl ?_
        obtain ⟨y9, hc, hF⟩ := bd hF
        refine V_callV G dX8_book_76 kX8_99 (wd_at ht.2.2.2.2.1.1) ⟨by decide, rfl⟩ (s_X1_clear ht.2.2.2.2.1 G hc (by omega)) rfl (Nat.le_of_ble_eq_true rfl) (fun _ _ _ q => q.elim) ?_
        rintro _ _ ⟨rfl, rfl⟩
        refine V_aload_n dX8_book_79 rfl ?_
        refine V_iconst (v := 0) dX8_book_80 (by decide) ?_
        refine X_pI G dX8_book_81 gX8_102 ht.1 rfl (by decide) (by decide) ?_
        obtain ⟨S10, qS10, hF⟩ := bnd_g hF
        refine V_eqS qS10 ?_
        refine V_iconst (v := 0) dX8_book_84 (by decide) ?_
        refine V_istore dX8_book_85 (by decide) ?_
        exact V_lv' (w_X8_book_L87 ht G hd f _ _ hF) (v_all_c rfl (v_all_c rfl v_all_n))
      · replace hF := (if_pos c).symm.trans hF
        refine V_aload_n dX8_book_42 rfl ?_
        refine V_iconst (v := 4) dX8_book_43 (by decide) ?_
        obtain ⟨y11, hc, hF⟩ := bd hF
        refine V_callV G dX8_book_44 kX8_88 (wd_at ht.1) ⟨by decide, rfl⟩ (s_X8_refused ht G hc (by omega)) rfl (Nat.le_of_ble_eq_true rfl) (fun _ _ _ q => q.elim) ?_
        rintro _ _ ⟨rfl, rfl⟩
        cases hF
        exact V_ireturn dX8_book_47 rfl rfl ⟨rfl, rfl⟩
    · replace hF := (if_neg c).symm.trans hF
      refine V_aload_n dX8_book_15 rfl ?_
      refine V_iconst (v := 2) dX8_book_16 (by decide) ?_
      obtain ⟨y12, hc, hF⟩ := bd hF
      refine V_callV G dX8_book_17 kX8_88 (wd_at ht.1) ⟨by decide, rfl⟩ (s_X8_refused ht G hc (by omega)) rfl (Nat.le_of_ble_eq_true rfl) (fun _ _ _ q => q.elim) ?_
      rintro _ _ ⟨rfl, rfl⟩
      cases hF
      exact V_ireturn dX8_book_20 rfl rfl ⟨rfl, rfl⟩
set_option maxRecDepth 100000 in
set_option maxHeartbeats 4000000 in
theorem s_X8_fault {l : Launch} {s0 : State} {D : va_G} {a0 : Array Value} {sh : List Sh} {f : Nat} {S : St} {t : Nat} (ht : isX8 sh t) {r : Int32} (G : GC l s0 D a0) (hF : F_X8_fault sh f S t = some r) {d : Nat} (hd : 1 ≤ d) : Sp l s0 D d 0 0 mX8_fault (fun v h => v = some (.int r) ∧ h = wd s0.heap.size sh S) v_noX [.ref (s0.heap.size + t)] (wd s0.heap.size sh S) := by
  obtain ⟨d, rfl⟩ : ∃ e, d = e + 1 := ⟨d - 1, by omega⟩
  refine Sp.of (by decide +kernel) rfl (Nat.le_of_ble_eq_true rfl) ?_
  unfold F_X8_fault at hF
  refine V_aload_n dX8_fault_0 rfl ?_
  refine X_gC G dX8_fault_1 fX8_10 ht.1 rfl ?_
  refine X_gI G dX8_fault_4 fX8_112 ht.2.1.1 rfl ?_
  cases hF
  exact V_ireturn dX8_fault_7 rfl rfl ⟨rfl, rfl⟩
set_option maxRecDepth 100000 in
set_option maxHeartbeats 4000000 in
theorem s_X8_where {l : Launch} {s0 : State} {D : va_G} {a0 : Array Value} {sh : List Sh} {f : Nat} {S : St} {t : Nat} (ht : isX8 sh t) {r : Int32} (G : GC l s0 D a0) (hF : F_X8_where sh f S t = some r) {d : Nat} (hd : 1 ≤ d) : Sp l s0 D d 0 0 mX8_where (fun v h => v = some (.int r) ∧ h = wd s0.heap.size sh S) v_noX [.ref (s0.heap.size + t)] (wd s0.heap.size sh S) := by
  obtain ⟨d, rfl⟩ : ∃ e, d = e + 1 := ⟨d - 1, by omega⟩
  refine Sp.of (by decide +kernel) rfl (Nat.le_of_ble_eq_true rfl) ?_
  unfold F_X8_where at hF
  refine V_aload_n dX8_where_0 rfl ?_
  refine X_gI G dX8_where_1 fX8_106 ht.1 rfl ?_
  refine V_iconst (v := 4) dX8_where_4 (by decide) ?_
  refine V_icmp_ne (tgt := 18) dX8_where_5 (by decide) (fun c => ?_) (fun c => ?_)
  · replace hF := (if_neg c).symm.trans hF
    refine V_iconst (v := -1) dX8_where_18 (by decide) ?_
    cases hF
    exact V_ireturn dX8_where_19 rfl rfl ⟨rfl, rfl⟩
  · replace hF := (if_pos c).symm.trans hF
    refine V_aload_n dX8_where_8 rfl ?_
    refine X_gC G dX8_where_9 fX8_10 ht.1 rfl ?_
    refine X_gI G dX8_where_12 fX8_115 ht.2.1.1 rfl ?_
    refine V_goto (tgt := 19) dX8_where_15 (by decide) ?_
    cases hF
    exact V_ireturn dX8_where_19 rfl rfl ⟨rfl, rfl⟩
set_option maxRecDepth 100000 in
set_option maxHeartbeats 4000000 in
theorem s_X8_kind {l : Launch} {s0 : State} {D : va_G} {a0 : Array Value} {sh : List Sh} {f : Nat} {S : St} {t : Nat} {p1 : Int32} {p2 : Int32} (ht : isX8 sh t) {r : Int32} (G : GC l s0 D a0) (hF : F_X8_kind sh f S t p1 p2 = some r) {d : Nat} (hd : 3 ≤ d) : Sp l s0 D d 0 0 mX8_kind (fun v h => v = some (.int r) ∧ h = wd s0.heap.size sh S) v_noX [.ref (s0.heap.size + t), .int p1, .int p2] (wd s0.heap.size sh S) := by
  obtain ⟨d, rfl⟩ : ∃ e, d = e + 1 := ⟨d - 1, by omega⟩
  refine Sp.of (by decide +kernel) rfl (Nat.le_of_ble_eq_true rfl) ?_
  unfold F_X8_kind at hF
  refine V_aload_n dX8_kind_0 rfl ?_
  obtain ⟨b1, hrb1, hF⟩ := bd hF
  obtain ⟨hb1, hF⟩ := gv_in hF
  replace hb1 := ckX0_ok hb1
  refine X_gR G dX8_kind_1 fX8_63 ht.1 rfl hrb1 ?_
  refine V_iload_n dX8_kind_4 rfl ?_
  refine V_iload_n dX8_kind_5 rfl ?_
  obtain ⟨y2, hc, hF⟩ := bd hF
  refine V_callV G dX8_kind_6 kX8_118 (wd_at hb1.1) ⟨by decide, rfl⟩ (s_X0_ofKind hb1 G hc (by omega)) rfl (Nat.le_of_ble_eq_true rfl) (fun _ _ _ q => q.elim) ?_
  rintro _ _ ⟨rfl, rfl⟩
  cases hF
  exact V_ireturn dX8_kind_9 rfl rfl ⟨rfl, rfl⟩
set_option maxRecDepth 100000 in
set_option maxHeartbeats 4000000 in
theorem s_X8_rule {l : Launch} {s0 : State} {D : va_G} {a0 : Array Value} {sh : List Sh} {f : Nat} {S : St} {t : Nat} {p1 : Int32} {p2 : Int32} (ht : isX8 sh t) {r : Int32} (G : GC l s0 D a0) (hF : F_X8_rule sh f S t p1 p2 = some r) {d : Nat} (hd : 2 ≤ d) : Sp l s0 D d 0 0 mX8_rule (fun v h => v = some (.int r) ∧ h = wd s0.heap.size sh S) v_noX [.ref (s0.heap.size + t), .int p1, .int p2] (wd s0.heap.size sh S) := by
  obtain ⟨d, rfl⟩ : ∃ e, d = e + 1 := ⟨d - 1, by omega⟩
  refine Sp.of (by decide +kernel) rfl (Nat.le_of_ble_eq_true rfl) ?_
  unfold F_X8_rule at hF
  refine V_aload_n dX8_rule_0 rfl ?_
  obtain ⟨b1, hrb1, hF⟩ := bd hF
  obtain ⟨hb1, hF⟩ := gv_in hF
  replace hb1 := ckX0_ok hb1
  refine X_gR G dX8_rule_1 fX8_63 ht.1 rfl hrb1 ?_
  refine V_iload_n dX8_rule_4 rfl ?_
  refine V_iload_n dX8_rule_5 rfl ?_
  obtain ⟨y2, hc, hF⟩ := bd hF
  refine V_callV G dX8_rule_6 kX8_122 (wd_at hb1.1) ⟨by decide, rfl⟩ (s_X0_ofRule hb1 G hc (by omega)) rfl (Nat.le_of_ble_eq_true rfl) (fun _ _ _ q => q.elim) ?_
  rintro _ _ ⟨rfl, rfl⟩
  cases hF
  exact V_ireturn dX8_rule_9 rfl rfl ⟨rfl, rfl⟩
set_option maxRecDepth 100000 in
set_option maxHeartbeats 4000000 in
theorem w_X8_meeting_L133 {l : Launch} {s0 : State} {D : va_G} {a0 : Array Value} {sh : List Sh} {f : Nat} {t : Nat} {p1 : Int32} {p2 : Int32} {p3 : Int32} {p4 : Int32} {p5 : Int32} {p6 : Int32} (ht : isX8 sh t) {r : Int32 × St} {d : Nat} (G : GC l s0 D a0) (hd : 2 ≤ d + 1) : ∀ (n : Nat) (S : St) (l7 : Int32) (l8 : Int32), F_X8_meeting_L133 sh f t p1 p2 p3 p4 p5 p6 n S l7 l8 = some r → V l s0 D (d + 1) 0 0 mX8_meeting (fun v h => v = some (.int r.1) ∧ h = wd s0.heap.size sh r.2) v_noX 133 [(0, .ref (s0.heap.size + t)), (7, .int l7), (8, .int l8)] [] (wd s0.heap.size sh S) := by
  intro n
  induction n with
  | zero => intro S l7 l8 hF; cases hF
  | succ n ih =>
    intro S l7 l8 hF
    unfold F_X8_meeting_L133 at hF
    refine V_iload dX8_meeting_133 rfl ?_
    refine V_iload dX8_meeting_135 rfl ?_
    refine V_icmp_ge (tgt := 161) dX8_meeting_137 (by decide) (fun c => ?_) (fun c => ?_)
    · replace hF := (if_pos c).symm.trans hF
      refine V_aload_n dX8_meeting_161 rfl ?_
      refine V_iconst (v := 0) dX8_meeting_162 (by decide) ?_
      refine X_pI G dX8_meeting_163 gX8_102 ht.1 rfl (by decide) (by decide) ?_
      obtain ⟨S1, qS1, hF⟩ := bnd_g hF
      refine V_eqS qS1 ?_
      refine V_aload_n dX8_meeting_166 rfl ?_
      refine V_iconst (v := 0) dX8_meeting_167 (by decide) ?_
      refine X_pI G dX8_meeting_168 gX8_106 ht.1 rfl rfl rfl ?_
      obtain ⟨S2, qS2, hF⟩ := bnd_g hF
      refine V_eqS qS2 ?_
      refine V_iload dX8_meeting_171 rfl ?_
      cases hF
      exact V_ireturn dX8_meeting_173 rfl rfl ⟨rfl, rfl⟩
    · replace hF := (if_neg c).symm.trans hF
      refine V_aload_n dX8_meeting_140 rfl ?_
      refine X_gC G dX8_meeting_141 fX8_33 ht.1 rfl ?_
      refine V_aload_n dX8_meeting_144 rfl ?_
      refine X_gC G dX8_meeting_145 fX8_57 ht.1 rfl ?_
      refine V_iload dX8_meeting_148 rfl ?_
      obtain ⟨hz, hF⟩ := gv_out hF
      refine X_iald dX8_meeting_150 ht.2.2.2.2.2.2.2.2.2.2 hz ?_
      refine V_iconst (v := 0) dX8_meeting_151 (by decide) ?_
      obtain ⟨y3, hc, hF⟩ := bd hF
      refine V_callV G dX8_meeting_152 kX8_132 (wd_at ht.2.2.2.2.1.1) ⟨by decide, rfl⟩ (s_X1_add ht.2.2.2.2.1 G hc (by omega)) rfl (Nat.le_of_ble_eq_true rfl) (fun _ _ _ q => q.elim) ?_
      rintro _ _ ⟨rfl, rfl⟩
      obtain ⟨x4, qx4, hF⟩ := bnd_g hF
      refine B_iinc (v := 1) qx4 dX8_meeting_155 rfl (by decide) (by decide) ?_
      refine V_goto (tgt := 133) dX8_meeting_158 (by decide) ?_
      exact V_lv' (ih _ _ _ hF) (v_all_c rfl (v_all_c rfl (v_all_c rfl v_all_n)))
set_option maxRecDepth 100000 in
set_option maxHeartbeats 4000000 in
theorem w_X8_meeting_L95 {l : Launch} {s0 : State} {D : va_G} {a0 : Array Value} {sh : List Sh} {f : Nat} {t : Nat} {p1 : Int32} {p2 : Int32} {p3 : Int32} {p4 : Int32} {p5 : Int32} {p6 : Int32} (ht : isX8 sh t) {r : Int32 × St} {d : Nat} (G : GC l s0 D a0) (hd : 2 ≤ d + 1) : ∀ (S : St) (l7 : Int32), F_X8_meeting_L95 sh f t p1 p2 p3 p4 p5 p6 S l7 = some r → V l s0 D (d + 1) 0 0 mX8_meeting (fun v h => v = some (.int r.1) ∧ h = wd s0.heap.size sh r.2) v_noX 95 [(0, .ref (s0.heap.size + t)), (7, .int l7)] [] (wd s0.heap.size sh S) := by
  intro S l7 hF
  unfold F_X8_meeting_L95 at hF
  refine V_aload_n dX8_meeting_95 rfl ?_
  obtain ⟨b1, hrb1, hF⟩ := bd hF
  obtain ⟨hb1, hF⟩ := gv_in hF
  replace hb1 := ckX0_ok hb1
  refine X_gR G dX8_meeting_96 fX8_63 ht.1 rfl hrb1 ?_
  obtain ⟨y2, hc, hF⟩ := bd hF
  refine V_callV G dX8_meeting_99 kX8_128 (wd_at hb1.1) ⟨by decide, rfl⟩ (s_X0_isTold hb1 G hc (by omega)) rfl (Nat.le_of_ble_eq_true rfl) (fun _ _ _ q => q.elim) ?_
  rintro _ _ ⟨rfl, rfl⟩
  refine V_if_ne (tgt := 111) dX8_meeting_102 (by decide) (fun c => ?_) (fun c => ?_)
  · replace hF := (if_neg c).symm.trans hF
    refine V_iload dX8_meeting_111 rfl ?_
    refine V_iconst (v := 2) dX8_meeting_113 (by decide) ?_
    refine V_icmp_ge (tgt := 123) dX8_meeting_114 (by decide) (fun c => ?_) (fun c => ?_)
    · replace hF := (if_pos c).symm.trans hF
      refine V_aload_n dX8_meeting_123 rfl ?_
      refine X_gC G dX8_meeting_124 fX8_33 ht.1 rfl ?_
      obtain ⟨y3, hc, hF⟩ := bd hF
      refine V_callV G dX8_meeting_127 kX8_99 (wd_at ht.2.2.2.2.1.1) ⟨by decide, rfl⟩ (s_X1_clear ht.2.2.2.2.1 G hc (by omega)) rfl (Nat.le_of_ble_eq_true rfl) (fun _ _ _ q => q.elim) ?_
      rintro _ _ ⟨rfl, rfl⟩
      refine V_iconst (v := 0) dX8_meeting_130 (by decide) ?_
      refine V_istore dX8_meeting_131 (by decide) ?_
      exact V_lv' (w_X8_meeting_L133 ht G hd f _ _ _ hF) (v_all_c rfl (v_all_c rfl (v_all_c rfl v_all_n)))
    · replace hF := (if_neg c).symm.trans hF
      refine V_aload_n dX8_meeting_117 rfl ?_
      refine V_iconst (v := 2) dX8_meeting_118 (by decide) ?_
      obtain ⟨y4, hc, hF⟩ := bd hF
      refine V_callV G dX8_meeting_119 kX8_88 (wd_at ht.1) ⟨by decide, rfl⟩ (s_X8_refused ht G hc (by omega)) rfl (Nat.le_of_ble_eq_true rfl) (fun _ _ _ q => q.elim) ?_
      rintro _ _ ⟨rfl, rfl⟩
      cases hF
      exact V_ireturn dX8_meeting_122 rfl rfl ⟨rfl, rfl⟩
  · replace hF := (if_pos c).symm.trans hF
    refine V_aload_n dX8_meeting_105 rfl ?_
    refine V_iconst (v := 1) dX8_meeting_106 (by decide) ?_
    obtain ⟨y5, hc, hF⟩ := bd hF
    refine V_callV G dX8_meeting_107 kX8_88 (wd_at ht.1) ⟨by decide, rfl⟩ (s_X8_refused ht G hc (by omega)) rfl (Nat.le_of_ble_eq_true rfl) (fun _ _ _ q => q.elim) ?_
    rintro _ _ ⟨rfl, rfl⟩
    cases hF
    exact V_ireturn dX8_meeting_110 rfl rfl ⟨rfl, rfl⟩
set_option maxRecDepth 100000 in
set_option maxHeartbeats 4000000 in
theorem w_X8_meeting_L48 {l : Launch} {s0 : State} {D : va_G} {a0 : Array Value} {sh : List Sh} {f : Nat} {t : Nat} {p1 : Int32} {p2 : Int32} {p3 : Int32} {p4 : Int32} {p5 : Int32} {p6 : Int32} (ht : isX8 sh t) {r : Int32 × St} {d : Nat} (G : GC l s0 D a0) (hd : 2 ≤ d + 1) : ∀ (n : Nat) (S : St) (l7 : Int32), F_X8_meeting_L48 sh f t p1 p2 p3 p4 p5 p6 n S l7 = some r → V l s0 D (d + 1) 0 0 mX8_meeting (fun v h => v = some (.int r.1) ∧ h = wd s0.heap.size sh r.2) v_noX 48 [(0, .ref (s0.heap.size + t)), (7, .int l7)] [] (wd s0.heap.size sh S) := by
  intro n
  induction n with
  | zero => intro S l7 hF; cases hF
  | succ n ih =>
    intro S l7 hF
    unfold F_X8_meeting_L48 at hF
    refine V_iload dX8_meeting_48 rfl ?_
    refine V_bipush (v := 6) dX8_meeting_50 (by decide) ?_
    refine V_icmp_ge (tgt := 95) dX8_meeting_52 (by decide) (fun c => ?_) (fun c => ?_)
    · replace hF := (if_pos c).symm.trans hF
      exact V_lv' (w_X8_meeting_L95 ht G hd _ _ hF) (v_all_c rfl (v_all_c rfl v_all_n))
    · replace hF := (if_neg c).symm.trans hF
      refine V_aload_n dX8_meeting_55 rfl ?_
      refine X_gC G dX8_meeting_56 fX8_57 ht.1 rfl ?_
      refine V_iload dX8_meeting_59 rfl ?_
      obtain ⟨hz, hF⟩ := gv_out hF
      refine X_iald dX8_meeting_61 ht.2.2.2.2.2.2.2.2.2.2 hz ?_
      refine V_iconst (v := -1) dX8_meeting_62 (by decide) ?_
      refine V_icmp_eq (tgt := 95) dX8_meeting_63 (by decide) (fun c => ?_) (fun c => ?_)
      · replace hF := (if_pos c).symm.trans hF
        exact V_lv' (w_X8_meeting_L95 ht G hd _ _ hF) (v_all_c rfl (v_all_c rfl v_all_n))
      · replace hF := (if_neg c).symm.trans hF
        refine V_aload_n dX8_meeting_66 rfl ?_
        obtain ⟨b1, hrb1, hF⟩ := bd hF
        obtain ⟨hb1, hF⟩ := gv_in hF
        replace hb1 := ckX0_ok hb1
        refine X_gR G dX8_meeting_67 fX8_63 ht.1 rfl hrb1 ?_
        refine V_aload_n dX8_meeting_70 rfl ?_
        refine X_gC G dX8_meeting_71 fX8_57 ht.1 rfl ?_
        refine V_iload dX8_meeting_74 rfl ?_
        obtain ⟨hz, hF⟩ := gv_out hF
        refine X_iald dX8_meeting_76 ht.2.2.2.2.2.2.2.2.2.2 hz ?_
        obtain ⟨y2, hc, hF⟩ := bd hF
        refine V_callV G dX8_meeting_77 kX8_125 (wd_at hb1.1) ⟨by decide, rfl⟩ (s_X0_hasKind hb1 G hc (by omega)) rfl (Nat.le_of_ble_eq_true rfl) (fun _ _ _ q => q.elim) ?_
        rintro _ _ ⟨rfl, rfl⟩
        refine V_if_ne (tgt := 89) dX8_meeting_80 (by decide) (fun c => ?_) (fun c => ?_)
        · replace hF := (if_neg c).symm.trans hF
          obtain ⟨x3, qx3, hF⟩ := bnd_g hF
          refine B_iinc (v := 1) qx3 dX8_meeting_89 rfl (by decide) (by decide) ?_
          refine V_goto (tgt := 48) dX8_meeting_92 (by decide) ?_
          exact V_lv' (ih _ _ hF) (v_all_c rfl (v_all_c rfl v_all_n))
        · replace hF := (if_pos c).symm.trans hF
          refine V_aload_n dX8_meeting_83 rfl ?_
          refine V_iconst (v := 1) dX8_meeting_84 (by decide) ?_
          obtain ⟨y4, hc, hF⟩ := bd hF
          refine V_callV G dX8_meeting_85 kX8_88 (wd_at ht.1) ⟨by decide, rfl⟩ (s_X8_refused ht G hc (by omega)) rfl (Nat.le_of_ble_eq_true rfl) (fun _ _ _ q => q.elim) ?_
          rintro _ _ ⟨rfl, rfl⟩
          cases hF
          exact V_ireturn dX8_meeting_88 rfl rfl ⟨rfl, rfl⟩
set_option maxRecDepth 100000 in
set_option maxHeartbeats 4000000 in
theorem s_X8_meeting {l : Launch} {s0 : State} {D : va_G} {a0 : Array Value} {sh : List Sh} {f : Nat} {S : St} {t : Nat} {p1 : Int32} {p2 : Int32} {p3 : Int32} {p4 : Int32} {p5 : Int32} {p6 : Int32} (ht : isX8 sh t) {r : Int32 × St} (G : GC l s0 D a0) (hF : F_X8_meeting sh f S t p1 p2 p3 p4 p5 p6 = some r) {d : Nat} (hd : 2 ≤ d) : Sp l s0 D d 0 0 mX8_meeting (fun v h => v = some (.int r.1) ∧ h = wd s0.heap.size sh r.2) v_noX [.ref (s0.heap.size + t), .int p1, .int p2, .int p3, .int p4, .int p5, .int p6] (wd s0.heap.size sh S) := by
  obtain ⟨d, rfl⟩ : ∃ e, d = e + 1 := ⟨d - 1, by omega⟩
  refine Sp.of (by decide +kernel) rfl (Nat.le_of_ble_eq_true rfl) ?_
  unfold F_X8_meeting at hF
  refine V_aload_n dX8_meeting_0 rfl ?_
  refine X_gC G dX8_meeting_1 fX8_57 ht.1 rfl ?_
  refine V_iconst (v := 0) dX8_meeting_4 (by decide) ?_
  refine V_iload_n dX8_meeting_5 rfl ?_
  obtain ⟨hz, hF⟩ := gv_out hF
  refine X_iast dX8_meeting_6 ht.2.2.2.2.2.2.2.2.2.2 hz ?_
  obtain ⟨S1, qS1, hF⟩ := bnd_g hF
  refine V_eqS qS1 ?_
  refine V_aload_n dX8_meeting_7 rfl ?_
  refine X_gC G dX8_meeting_8 fX8_57 ht.1 rfl ?_
  refine V_iconst (v := 1) dX8_meeting_11 (by decide) ?_
  refine V_iload_n dX8_meeting_12 rfl ?_
  obtain ⟨hz, hF⟩ := gv_out hF
  refine X_iast dX8_meeting_13 ht.2.2.2.2.2.2.2.2.2.2 hz ?_
  obtain ⟨S2, qS2, hF⟩ := bnd_g hF
  refine V_eqS qS2 ?_
  refine V_aload_n dX8_meeting_14 rfl ?_
  refine X_gC G dX8_meeting_15 fX8_57 ht.1 rfl ?_
  refine V_iconst (v := 2) dX8_meeting_18 (by decide) ?_
  refine V_iload_n dX8_meeting_19 rfl ?_
  obtain ⟨hz, hF⟩ := gv_out hF
  refine X_iast dX8_meeting_20 ht.2.2.2.2.2.2.2.2.2.2 hz ?_
  obtain ⟨S3, qS3, hF⟩ := bnd_g hF
  refine V_eqS qS3 ?_
  refine V_aload_n dX8_meeting_21 rfl ?_
  refine X_gC G dX8_meeting_22 fX8_57 ht.1 rfl ?_
  refine V_iconst (v := 3) dX8_meeting_25 (by decide) ?_
  refine V_iload dX8_meeting_26 rfl ?_
  obtain ⟨hz, hF⟩ := gv_out hF
  refine X_iast dX8_meeting_28 ht.2.2.2.2.2.2.2.2.2.2 hz ?_
  obtain ⟨S4, qS4, hF⟩ := bnd_g hF
  refine V_eqS qS4 ?_
  refine V_aload_n dX8_meeting_29 rfl ?_
  refine X_gC G dX8_meeting_30 fX8_57 ht.1 rfl ?_
  refine V_iconst (v := 4) dX8_meeting_33 (by decide) ?_
  refine V_iload dX8_meeting_34 rfl ?_
  obtain ⟨hz, hF⟩ := gv_out hF
  refine X_iast dX8_meeting_36 ht.2.2.2.2.2.2.2.2.2.2 hz ?_
  obtain ⟨S5, qS5, hF⟩ := bnd_g hF
  refine V_eqS qS5 ?_
  refine V_aload_n dX8_meeting_37 rfl ?_
  refine X_gC G dX8_meeting_38 fX8_57 ht.1 rfl ?_
  refine V_iconst (v := 5) dX8_meeting_41 (by decide) ?_
  refine V_iload dX8_meeting_42 rfl ?_
  obtain ⟨hz, hF⟩ := gv_out hF
  refine X_iast dX8_meeting_44 ht.2.2.2.2.2.2.2.2.2.2 hz ?_
  obtain ⟨S6, qS6, hF⟩ := bnd_g hF
  refine V_eqS qS6 ?_
  refine V_iconst (v := 0) dX8_meeting_45 (by decide) ?_
  refine V_istore dX8_meeting_46 (by decide) ?_
  exact V_lv' (w_X8_meeting_L48 ht G hd f _ _ hF) (v_all_c rfl (v_all_c rfl v_all_n))

