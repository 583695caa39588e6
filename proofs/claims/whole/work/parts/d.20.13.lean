set_option maxRecDepth 100000 in
set_option maxHeartbeats 4000000 in
theorem w_X5_fill_L18 {l : Launch} {s0 : State} {D : va_G} {a0 : Array Value} {sh : List Sh} {f : Nat} {t : Nat} {p1 : Nat} {p2 : Nat} {p3 : Int32} (ht : isX5 sh t) (hp1 : isX0 sh p1) (hp2 : isX1 sh p2) {r : Int32 × St} {d : Nat} (G : GC l s0 D a0) (hd : 16 ≤ d + 1) : ∀ (n : Nat) (S : St) (l4 : Int32) (l5 : Int32), F_X5_fill_L18 sh f t p1 p2 p3 n S l4 l5 = some r → V l s0 D (d + 1) 0 0 mX5_fill (fun v h => v = some (.int r.1) ∧ h = wd s0.heap.size sh r.2) v_noX 18 [(0, .ref (s0.heap.size + t)), (1, .ref (s0.heap.size + p1)), (2, .ref (s0.heap.size + p2)), (3, .int p3), (4, .int l4), (5, .int l5)] [] (wd s0.heap.size sh S) := by
  intro n
  induction n with
  | zero => intro S l4 l5 hF; cases hF
  | succ n ih =>
    intro S l4 l5 hF
    unfold F_X5_fill_L18 at hF
    refine V_iload dX5_fill_18 rfl ?_
    refine V_iload dX5_fill_20 rfl ?_
    refine V_icmp_ge (tgt := 89) dX5_fill_22 (by decide) (fun c => ?_) (fun c => ?_)
    · replace hF := (if_pos c).symm.trans hF
      refine V_aload_n dX5_fill_89 rfl ?_
      obtain ⟨b1, hrb1, hF⟩ := bd hF
      obtain ⟨hb1, hF⟩ := gv_in hF
      replace hb1 := ckX3_ok hb1
      refine X_gR G dX5_fill_90 fX5_25 ht.1 rfl hrb1 ?_
      refine X_gI G dX5_fill_93 fX5_33 hb1.1 rfl ?_
      refine V_if_ne (tgt := 103) dX5_fill_96 (by decide) (fun c => ?_) (fun c => ?_)
      · replace hF := (if_neg c).symm.trans hF
        refine V_iconst (v := 0) dX5_fill_103 (by decide) ?_
        cases hF
        exact V_ireturn dX5_fill_104 rfl (by decide) ⟨rfl, rfl⟩
      · replace hF := (if_pos c).symm.trans hF
        refine V_iconst (v := 1) dX5_fill_99 (by decide) ?_
        refine V_goto (tgt := 104) dX5_fill_100 (by decide) ?_
        cases hF
        exact V_ireturn dX5_fill_104 rfl (by decide) ⟨rfl, rfl⟩
    · replace hF := (if_neg c).symm.trans hF
      refine V_aload_n dX5_fill_25 rfl ?_
      obtain ⟨b2, hrb2, hF⟩ := bd hF
      obtain ⟨hb2, hF⟩ := gv_in hF
      replace hb2 := ckX3_ok hb2
      refine X_gR G dX5_fill_26 fX5_25 ht.1 rfl hrb2 ?_
      refine X_gI G dX5_fill_29 fX5_33 hb2.1 rfl ?_
      refine V_if_ne (tgt := 89) dX5_fill_32 (by decide) (fun c => ?_) (fun c => ?_)
      · replace hF := (if_neg c).symm.trans hF
        refine V_aload_n dX5_fill_89 rfl ?_
        obtain ⟨b3, hrb3, hF⟩ := bd hF
        obtain ⟨hb3, hF⟩ := gv_in hF
        replace hb3 := ckX3_ok hb3
        refine X_gR G dX5_fill_90 fX5_25 ht.1 rfl hrb3 ?_
        refine X_gI G dX5_fill_93 fX5_33 hb3.1 rfl ?_
        refine V_if_ne (tgt := 103) dX5_fill_96 (by decide) (fun c => ?_) (fun c => ?_)
        · replace hF := (if_neg c).symm.trans hF
          refine V_iconst (v := 0) dX5_fill_103 (by decide) ?_
          cases hF
          exact V_ireturn dX5_fill_104 rfl (by decide) ⟨rfl, rfl⟩
        · replace hF := (if_pos c).symm.trans hF
          refine V_iconst (v := 1) dX5_fill_99 (by decide) ?_
          refine V_goto (tgt := 104) dX5_fill_100 (by decide) ?_
          cases hF
          exact V_ireturn dX5_fill_104 rfl (by decide) ⟨rfl, rfl⟩
      · replace hF := (if_pos c).symm.trans hF
        refine V_aload_n dX5_fill_35 rfl ?_
        refine X_gC G dX5_fill_36 fX5_12 ht.1 rfl ?_
        refine V_aload_n dX5_fill_39 rfl ?_
        refine V_aload_n dX5_fill_40 rfl ?_
        refine V_iload_n dX5_fill_41 rfl ?_
        refine V_iload dX5_fill_42 rfl ?_
        obtain ⟨y4, hc, hF⟩ := bd hF
        refine V_callV G dX5_fill_44 kX5_37 (wd_at ht.2.1.1) ⟨by decide, rfl⟩ (s_X4_lay ht.2.1 hp1 hp2 G hc (by omega)) rfl (Nat.le_of_ble_eq_true rfl) (fun _ _ _ q => q.elim) ?_
        rintro _ _ ⟨rfl, rfl⟩
        refine V_if_eq (tgt := 83) dX5_fill_47 (by decide) (fun c => ?_) (fun c => ?_)
        · replace hF := (if_pos c).symm.trans hF
          obtain ⟨x5, qx5, hF⟩ := bnd_g hF
          refine B_iinc (v := 1) qx5 dX5_fill_83 rfl (by decide) (by decide) ?_
          refine V_goto (tgt := 18) dX5_fill_86 (by decide) ?_
          exact V_lv' (ih _ _ _ hF) (v_all_c rfl (v_all_c rfl (v_all_c rfl (v_all_c rfl (v_all_c rfl (v_all_c rfl v_all_n))))))
        · replace hF := (if_neg c).symm.trans hF
          refine V_aload_n dX5_fill_50 rfl ?_
          obtain ⟨b6, hrb6, hF⟩ := bd hF
          obtain ⟨hb6, hF⟩ := gv_in hF
          replace hb6 := ckX3_ok hb6
          refine X_gR G dX5_fill_51 fX5_25 ht.1 rfl hrb6 ?_
          refine V_aload_n dX5_fill_54 rfl ?_
          refine V_aload_n dX5_fill_55 rfl ?_
          refine X_gC G dX5_fill_56 fX5_12 ht.1 rfl ?_
          refine V_iload dX5_fill_59 rfl ?_
          obtain ⟨y7, hc, hF⟩ := bd hF
          refine V_callV G dX5_fill_61 kX5_41 (wd_at hb6.1) ⟨by decide, rfl⟩ (s_X3_openGroup hb6 hp1 ht.2.1 G hc (by omega)) rfl (Nat.le_of_ble_eq_true rfl) (fun _ _ _ q => q.elim) ?_
          rintro _ _ ⟨rfl, rfl⟩
          refine V_if_eq (tgt := 83) dX5_fill_64 (by decide) (fun c => ?_) (fun c => ?_)
          · replace hF := (if_pos c).symm.trans hF
            obtain ⟨x8, qx8, hF⟩ := bnd_g hF
            refine B_iinc (v := 1) qx8 dX5_fill_83 rfl (by decide) (by decide) ?_
            refine V_goto (tgt := 18) dX5_fill_86 (by decide) ?_
            exact V_lv' (ih _ _ _ hF) (v_all_c rfl (v_all_c rfl (v_all_c rfl (v_all_c rfl (v_all_c rfl (v_all_c rfl v_all_n))))))
          · replace hF := (if_neg c).symm.trans hF
            refine V_aload_n dX5_fill_67 rfl ?_
            refine V_aload_n dX5_fill_68 rfl ?_
            refine V_aload_n dX5_fill_69 rfl ?_
            refine X_gC G dX5_fill_70 fX5_12 ht.1 rfl ?_
            obtain ⟨y9, hc, hF⟩ := bd hF
            refine V_callV G dX5_fill_73 kX5_45 (wd_at ht.2.1.1) ⟨by decide, rfl⟩ (s_X4_allLegs ht.2.1 G hc (by omega)) rfl (Nat.le_of_ble_eq_true rfl) (fun _ _ _ q => q.elim) ?_
            rintro _ _ ⟨rfl, rfl⟩
            refine V_iconst (v := 0) dX5_fill_76 (by decide) ?_
            refine V_lconst (v := 0) dX5_fill_77 (by decide) ?_
            refine V_iconst (v := 1) dX5_fill_78 (by decide) ?_
            refine V_iconst (v := 0) dX5_fill_79 (by decide) ?_
            obtain ⟨y10, hc, hF⟩ := bd hF
            refine V_callV G dX5_fill_80 kX5_49 (wd_at ht.1) ⟨by decide, rfl⟩ (s_X5_draw G 10 _ _ _ _ _ _ _ _ _ ht hp1 hc _ (by omega)) rfl (Nat.le_of_ble_eq_true rfl) (fun _ _ _ q => q.elim) ?_
            rintro _ _ ⟨rfl, rfl⟩
            obtain ⟨x11, qx11, hF⟩ := bnd_g hF
            refine B_iinc (v := 1) qx11 dX5_fill_83 rfl (by decide) (by decide) ?_
            refine V_goto (tgt := 18) dX5_fill_86 (by decide) ?_
            exact V_lv' (ih _ _ _ hF) (v_all_c rfl (v_all_c rfl (v_all_c rfl (v_all_c rfl (v_all_c rfl (v_all_c rfl v_all_n))))))
set_option maxRecDepth 100000 in
set_option maxHeartbeats 4000000 in
theorem s_X5_fill {l : Launch} {s0 : State} {D : va_G} {a0 : Array Value} {sh : List Sh} {f : Nat} {S : St} {t : Nat} {p1 : Nat} {p2 : Nat} {p3 : Int32} (ht : isX5 sh t) (hp1 : isX0 sh p1) (hp2 : isX1 sh p2) {r : Int32 × St} (G : GC l s0 D a0) (hF : F_X5_fill sh f S t p1 p2 p3 = some r) {d : Nat} (hd : 16 ≤ d) : Sp l s0 D d 0 0 mX5_fill (fun v h => v = some (.int r.1) ∧ h = wd s0.heap.size sh r.2) v_noX [.ref (s0.heap.size + t), .ref (s0.heap.size + p1), .ref (s0.heap.size + p2), .int p3] (wd s0.heap.size sh S) := by
  obtain ⟨d, rfl⟩ : ∃ e, d = e + 1 := ⟨d - 1, by omega⟩
  refine Sp.of (by decide +kernel) rfl (Nat.le_of_ble_eq_true rfl) ?_
  unfold F_X5_fill at hF
  refine V_aload_n dX5_fill_0 rfl ?_
  obtain ⟨b1, hrb1, hF⟩ := bd hF
  obtain ⟨hb1, hF⟩ := gv_in hF
  replace hb1 := ckX3_ok hb1
  refine X_gR G dX5_fill_1 fX5_25 ht.1 rfl hrb1 ?_
  refine V_iload_n dX5_fill_4 rfl ?_
  obtain ⟨y2, hc, hF⟩ := bd hF
  refine V_callV G dX5_fill_5 kX5_29 (wd_at hb1.1) ⟨by decide, rfl⟩ (s_X3_clear hb1 G hc (by omega)) rfl (Nat.le_of_ble_eq_true rfl) (fun _ _ _ q => q.elim) ?_
  rintro _ _ ⟨rfl, rfl⟩
  refine V_iconst (v := 1) dX5_fill_8 (by decide) ?_
  refine V_iconst (v := 2) dX5_fill_9 (by decide) ?_
  refine V_iload_n dX5_fill_10 rfl ?_
  refine V_imul dX5_fill_11 ?_
  refine V_ishl dX5_fill_12 ?_
  obtain ⟨x3, qx3, hF⟩ := bnd_g hF
  refine B_istore qx3 dX5_fill_13 (by decide) ?_
  refine V_iconst (v := 0) dX5_fill_15 (by decide) ?_
  refine V_istore dX5_fill_16 (by decide) ?_
  exact V_lv' (w_X5_fill_L18 ht hp1 hp2 G hd f _ _ _ hF) (v_all_c rfl (v_all_c rfl (v_all_c rfl (v_all_c rfl (v_all_c rfl (v_all_c rfl v_all_n))))))
set_option maxRecDepth 100000 in
set_option maxHeartbeats 4000000 in
theorem w_X5_leastOf_L38 {l : Launch} {s0 : State} {D : va_G} {a0 : Array Value} {sh : List Sh} {f : Nat} {t : Nat} {p1 : Nat} {p2 : Nat} {p3 : Int32} {p4 : Int32} {p5 : Int64} (ht : isX5 sh t) (hp1 : isX0 sh p1) (hp2 : isX1 sh p2) {r : Int64 × St} {d : Nat} (G : GC l s0 D a0) (hd : 5 ≤ d + 1) : ∀ (n : Nat) (S : St) (l7 : Int64) (l9 : Int32), F_X5_leastOf_L38 sh f t p1 p2 p3 p4 p5 n S l7 l9 = some r → V l s0 D (d + 1) 0 0 mX5_leastOf (fun v h => v = some (.long r.1) ∧ h = wd s0.heap.size sh r.2) v_noX 38 [(0, .ref (s0.heap.size + t)), (5, .long p5), (7, .long l7), (9, .int l9)] [] (wd s0.heap.size sh S) := by
  intro n
  induction n with
  | zero => intro S l7 l9 hF; cases hF
  | succ n ih =>
    intro S l7 l9 hF
    unfold F_X5_leastOf_L38 at hF
    refine V_iload dX5_leastOf_38 rfl ?_
    refine V_bipush (v := 6) dX5_leastOf_40 (by decide) ?_
    refine V_icmp_ge (tgt := 83) dX5_leastOf_42 (by decide) (fun c => ?_) (fun c => ?_)
    · replace hF := (if_pos c).symm.trans hF
      refine V_lload dX5_leastOf_83 rfl ?_
      cases hF
      exact V_lreturn dX5_leastOf_85 rfl ⟨rfl, rfl⟩
    · replace hF := (if_neg c).symm.trans hF
      refine V_aload_n dX5_leastOf_45 rfl ?_
      refine X_gC G dX5_leastOf_46 fX5_12 ht.1 rfl ?_
      refine V_iload dX5_leastOf_49 rfl ?_
      obtain ⟨y1, hc, hF⟩ := bd hF
      refine V_callV G dX5_leastOf_51 kX5_90 (wd_at ht.2.1.1) ⟨by decide, rfl⟩ (s_X4_keepsRules ht.2.1 G hc (by omega)) rfl (Nat.le_of_ble_eq_true rfl) (fun _ _ _ q => q.elim) ?_
      rintro _ _ ⟨rfl, rfl⟩
      refine V_if_eq (tgt := 77) dX5_leastOf_54 (by decide) (fun c => ?_) (fun c => ?_)
      · replace hF := (if_pos c).symm.trans hF
        obtain ⟨x2, qx2, hF⟩ := bnd_g hF
        refine B_iinc (v := 1) qx2 dX5_leastOf_77 rfl (by decide) (by decide) ?_
        refine V_goto (tgt := 38) dX5_leastOf_80 (by decide) ?_
        exact V_lv' (ih _ _ _ hF) (v_all_c rfl (v_all_c rfl (v_all_c rfl (v_all_c rfl v_all_n))))
      · replace hF := (if_neg c).symm.trans hF
        refine V_aload_n dX5_leastOf_57 rfl ?_
        refine V_lload dX5_leastOf_58 rfl ?_
        refine V_iload dX5_leastOf_60 rfl ?_
        obtain ⟨y3, hc, hF⟩ := bd hF
        refine V_callV G dX5_leastOf_62 kX5_93 (wd_at ht.1) ⟨by decide, rfl⟩ (s_X5_tally ht G hc (by omega)) rfl (Nat.le_of_ble_eq_true rfl) (fun _ _ _ q => q.elim) ?_
        rintro _ _ ⟨rfl, rfl⟩
        refine V_pop dX5_leastOf_65 rfl ?_
        refine V_lload dX5_leastOf_66 rfl ?_
        refine V_aload_n dX5_leastOf_68 rfl ?_
        obtain ⟨y4, hc, hF⟩ := bd hF
        refine V_callV G dX5_leastOf_69 kX5_97 (wd_at ht.1) ⟨by decide, rfl⟩ (s_X5_leastTallied ht G hc (by omega)) rfl (Nat.le_of_ble_eq_true rfl) (fun _ _ _ q => q.elim) ?_
        rintro _ _ ⟨rfl, rfl⟩
        obtain ⟨y5, hc, hF⟩ := bd hF
        refine V_callS dX5_leastOf_72 kX5_162 (s_J9_min_f86c9 G hc (by omega)) rfl (Nat.le_of_ble_eq_true rfl) (fun _ _ _ q => q.elim) ?_
        rintro _ _ ⟨rfl, rfl⟩
        refine V_lstore dX5_leastOf_75 (by decide) ?_
        obtain ⟨x6, qx6, hF⟩ := bnd_g hF
        refine B_iinc (v := 1) qx6 dX5_leastOf_77 rfl (by decide) (by decide) ?_
        refine V_goto (tgt := 38) dX5_leastOf_80 (by decide) ?_
        exact V_lv' (ih _ _ _ hF) (v_all_c rfl (v_all_c rfl (v_all_c rfl (v_all_c rfl v_all_n))))
set_option maxRecDepth 100000 in
set_option maxHeartbeats 4000000 in
theorem s_X5_leastOf {l : Launch} {s0 : State} {D : va_G} {a0 : Array Value} {sh : List Sh} {f : Nat} {S : St} {t : Nat} {p1 : Nat} {p2 : Nat} {p3 : Int32} {p4 : Int32} {p5 : Int64} (ht : isX5 sh t) (hp1 : isX0 sh p1) (hp2 : isX1 sh p2) {r : Int64 × St} (G : GC l s0 D a0) (hF : F_X5_leastOf sh f S t p1 p2 p3 p4 p5 = some r) {d : Nat} (hd : 5 ≤ d) : Sp l s0 D d 0 0 mX5_leastOf (fun v h => v = some (.long r.1) ∧ h = wd s0.heap.size sh r.2) v_noX [.ref (s0.heap.size + t), .ref (s0.heap.size + p1), .ref (s0.heap.size + p2), .int p3, .int p4, .long p5] (wd s0.heap.size sh S) := by
  obtain ⟨d, rfl⟩ : ∃ e, d = e + 1 := ⟨d - 1, by omega⟩
  refine Sp.of (by decide +kernel) rfl (Nat.le_of_ble_eq_true rfl) ?_
  unfold F_X5_leastOf at hF
  refine V_aload_n dX5_leastOf_0 rfl ?_
  refine X_gC G dX5_leastOf_1 fX5_12 ht.1 rfl ?_
  refine V_aload_n dX5_leastOf_4 rfl ?_
  refine V_aload_n dX5_leastOf_5 rfl ?_
  refine V_iload_n dX5_leastOf_6 rfl ?_
  refine V_iload dX5_leastOf_7 rfl ?_
  obtain ⟨y1, hc, hF⟩ := bd hF
  refine V_callV G dX5_leastOf_9 kX5_37 (wd_at ht.2.1.1) ⟨by decide, rfl⟩ (s_X4_lay ht.2.1 hp1 hp2 G hc (by omega)) rfl (Nat.le_of_ble_eq_true rfl) (fun _ _ _ q => q.elim) ?_
  rintro _ _ ⟨rfl, rfl⟩
  refine V_if_eq (tgt := 27) dX5_leastOf_12 (by decide) (fun c => ?_) (fun c => ?_)
  · replace hF := (if_pos c).symm.trans hF
    refine V_ldc2 dX5_leastOf_27 qX5_160 ?_
    cases hF
    exact V_lreturn dX5_leastOf_30 rfl ⟨rfl, rfl⟩
  · replace hF := (if_neg c).symm.trans hF
    refine V_aload_n dX5_leastOf_15 rfl ?_
    refine X_gC G dX5_leastOf_16 fX5_12 ht.1 rfl ?_
    refine V_lload dX5_leastOf_19 rfl ?_
    obtain ⟨y2, hc, hF⟩ := bd hF
    refine V_callV G dX5_leastOf_21 kX5_156 (wd_at ht.2.1.1) ⟨by decide, rfl⟩ (s_X4_isPairing ht.2.1 G hc (by omega)) rfl (Nat.le_of_ble_eq_true rfl) (fun _ _ _ q => q.elim) ?_
    rintro _ _ ⟨rfl, rfl⟩
    refine V_if_ne (tgt := 31) dX5_leastOf_24 (by decide) (fun c => ?_) (fun c => ?_)
    · replace hF := (if_neg c).symm.trans hF
      refine V_lload dX5_leastOf_31 rfl ?_
      refine V_lstore dX5_leastOf_33 (by decide) ?_
      refine V_iconst (v := 0) dX5_leastOf_35 (by decide) ?_
      refine V_istore dX5_leastOf_36 (by decide) ?_
      exact V_lv' (w_X5_leastOf_L38 ht hp1 hp2 G hd f _ _ _ hF) (v_all_c rfl (v_all_c rfl (v_all_c rfl (v_all_c rfl v_all_n))))
    · replace hF := (if_pos c).symm.trans hF
      refine V_ldc2 dX5_leastOf_27 qX5_160 ?_
      cases hF
      exact V_lreturn dX5_leastOf_30 rfl ⟨rfl, rfl⟩
set_option maxRecDepth 100000 in
set_option maxHeartbeats 4000000 in
theorem w_X5_walk_L51 {l : Launch} {s0 : State} {D : va_G} {a0 : Array Value} {sh : List Sh} {f : Nat} {S : St} {t : Nat} {p1 : Int32} {p2 : Int32} {p3 : Int32} (ht : isX5 sh t) {r : Int32} {d : Nat} (G : GC l s0 D a0) (hd : 3 ≤ d + 1) {kR : Nat → Int32 → Int32 → Int32 → Option (Int32)} (hkR : ∀ (t : Nat) (p1 : Int32) (p2 : Int32) (p3 : Int32) (r : Int32), isX5 sh t → kR t p1 p2 p3 = some r → Sp l s0 D d 0 0 mX5_walk (fun v h => v = some (.int r) ∧ h = wd s0.heap.size sh S) v_noX [.ref (s0.heap.size + t), .int p1, .int p2, .int p3] (wd s0.heap.size sh S)) : ∀ (n : Nat) (l4 : Int32) (l5 : Int32) (l6 : Int32) (l7 : Int32), F_X5_walk_L51 sh f S t p1 p2 p3 kR n l4 l5 l6 l7 = some r → V l s0 D (d + 1) 0 0 mX5_walk (fun v h => v = some (.int r) ∧ h = wd s0.heap.size sh S) v_noX 51 [(0, .ref (s0.heap.size + t)), (2, .int p2), (3, .int p3), (4, .int l4), (5, .int l5), (6, .int l6), (7, .int l7)] [] (wd s0.heap.size sh S) := by
  intro n
  induction n with
  | zero => intro l4 l5 l6 l7 hF; cases hF
  | succ n ih =>
    intro l4 l5 l6 l7 hF
    unfold F_X5_walk_L51 at hF
    refine V_iload dX5_walk_51 rfl ?_
    refine V_aload_n dX5_walk_53 rfl ?_
    refine X_gC G dX5_walk_54 fX5_12 ht.1 rfl ?_
    refine X_gI G dX5_walk_57 fX5_63 ht.2.1.1 rfl ?_
    refine V_icmp_ge (tgt := 133) dX5_walk_60 (by decide) (fun c => ?_) (fun c => ?_)
    · replace hF := (if_pos c).symm.trans hF
      refine V_iload dX5_walk_133 rfl ?_
      cases hF
      exact V_ireturn dX5_walk_135 rfl rfl ⟨rfl, rfl⟩
    · replace hF := (if_neg c).symm.trans hF
      refine V_aload_n dX5_walk_63 rfl ?_
      refine X_gC G dX5_walk_64 fX5_12 ht.1 rfl ?_
      refine V_iload dX5_walk_67 rfl ?_
      refine V_iload dX5_walk_69 rfl ?_
      refine V_iload dX5_walk_71 rfl ?_
      obtain ⟨y1, hc, hF⟩ := bd hF
      refine V_callV G dX5_walk_73 kX5_190 (wd_at ht.2.1.1) ⟨by decide, rfl⟩ (s_X4_mayJoin ht.2.1 G hc (by omega)) rfl (Nat.le_of_ble_eq_true rfl) (fun _ _ _ q => q.elim) ?_
      rintro _ _ ⟨rfl, rfl⟩
      refine V_if_eq (tgt := 127) dX5_walk_76 (by decide) (fun c => ?_) (fun c => ?_)
      · replace hF := (if_pos c).symm.trans hF
        obtain ⟨x2, qx2, hF⟩ := bnd_g hF
        refine B_iinc (v := 1) qx2 dX5_walk_127 rfl (by decide) (by decide) ?_
        refine V_goto (tgt := 51) dX5_walk_130 (by decide) ?_
        exact V_lv' (ih _ _ _ _ hF) (v_all_c rfl (v_all_c rfl (v_all_c rfl (v_all_c rfl (v_all_c rfl (v_all_c rfl (v_all_c rfl v_all_n)))))))
      · replace hF := (if_neg c).symm.trans hF
        refine V_iload dX5_walk_79 rfl ?_
        refine V_aload_n dX5_walk_81 rfl ?_
        refine X_gC G dX5_walk_82 fX5_12 ht.1 rfl ?_
        refine V_iload dX5_walk_85 rfl ?_
        refine V_iload dX5_walk_87 rfl ?_
        refine V_iload dX5_walk_89 rfl ?_
        obtain ⟨y3, hc, hF⟩ := bd hF
        refine V_callV G dX5_walk_91 kX5_78 (wd_at ht.2.1.1) ⟨by decide, rfl⟩ (s_X4_signOf ht.2.1 G hc (by omega)) rfl (Nat.le_of_ble_eq_true rfl) (fun _ _ _ q => q.elim) ?_
        rintro _ _ ⟨rfl, rfl⟩
        refine V_aload_n dX5_walk_94 rfl ?_
        refine V_iload dX5_walk_95 rfl ?_
        refine V_iconst (v := 1) dX5_walk_97 (by decide) ?_
        refine V_iload dX5_walk_98 rfl ?_
        refine V_ishl dX5_walk_100 ?_
        refine V_iconst (v := -1) dX5_walk_101 (by decide) ?_
        refine V_ixor dX5_walk_102 ?_
        refine V_iand dX5_walk_103 ?_
        refine V_iload_n dX5_walk_104 rfl ?_
        refine V_aload_n dX5_walk_105 rfl ?_
        refine X_gC G dX5_walk_106 fX5_12 ht.1 rfl ?_
        refine V_iload dX5_walk_109 rfl ?_
        refine V_iload dX5_walk_111 rfl ?_
        obtain ⟨y4, hc, hF⟩ := bd hF
        refine V_callV G dX5_walk_113 kX5_132 (wd_at ht.2.1.1) ⟨by decide, rfl⟩ (s_X4_link ht.2.1 G hc (by omega)) rfl (Nat.le_of_ble_eq_true rfl) (fun _ _ _ q => q.elim) ?_
        rintro _ _ ⟨rfl, rfl⟩
        refine V_ior dX5_walk_116 ?_
        refine V_iload_n dX5_walk_117 rfl ?_
        refine V_iconst (v := 1) dX5_walk_118 (by decide) ?_
        refine V_iadd dX5_walk_119 ?_
        obtain ⟨y5, hc, hF⟩ := bd hF
        refine V_callV G dX5_walk_120 kX5_187 (wd_at ht.1) ⟨by decide, rfl⟩ (hkR _ _ _ _ _ ht hc) rfl (Nat.le_of_ble_eq_true rfl) (fun _ _ _ q => q.elim) ?_
        rintro _ _ ⟨rfl, rfl⟩
        refine V_imul dX5_walk_123 ?_
        refine V_iadd dX5_walk_124 ?_
        obtain ⟨x6, qx6, hF⟩ := bnd_g hF
        refine B_istore qx6 dX5_walk_125 (by decide) ?_
        obtain ⟨x7, qx7, hF⟩ := bnd_g hF
        refine B_iinc (v := 1) qx7 dX5_walk_127 rfl (by decide) (by decide) ?_
        refine V_goto (tgt := 51) dX5_walk_130 (by decide) ?_
        exact V_lv' (ih _ _ _ _ hF) (v_all_c rfl (v_all_c rfl (v_all_c rfl (v_all_c rfl (v_all_c rfl (v_all_c rfl (v_all_c rfl v_all_n)))))))
set_option maxRecDepth 100000 in
set_option maxHeartbeats 4000000 in
theorem s_X5_walk {l : Launch} {s0 : State} {D : va_G} {a0 : Array Value} {sh : List Sh} {f : Nat} (G : GC l s0 D a0) : ∀ (e : Nat) (S : St) (t : Nat) (p1 : Int32) (p2 : Int32) (p3 : Int32) (r : Int32), isX5 sh t → F_X5_walk sh f e S t p1 p2 p3 = some r → ∀ d : Nat, 3 + e ≤ d + 1 → Sp l s0 D d 0 0 mX5_walk (fun v h => v = some (.int r) ∧ h = wd s0.heap.size sh S) v_noX [.ref (s0.heap.size + t), .int p1, .int p2, .int p3] (wd s0.heap.size sh S) := by
  intro e
  induction e with
  | zero => intro S t p1 p2 p3 r ht hF d hd; cases hF
  | succ e ih =>
    intro S t p1 p2 p3 r ht hF d hd
    obtain ⟨d, rfl⟩ : ∃ z, d = z + 1 := ⟨d - 1, by omega⟩
    have hkR : ∀ (t : Nat) (p1 : Int32) (p2 : Int32) (p3 : Int32) (r : Int32), isX5 sh t → (F_X5_walk sh f e S) t p1 p2 p3 = some r → Sp l s0 D d 0 0 mX5_walk (fun v h => v = some (.int r) ∧ h = wd s0.heap.size sh S) v_noX [.ref (s0.heap.size + t), .int p1, .int p2, .int p3] (wd s0.heap.size sh S) := fun t p1 p2 p3 r ht hF => ih S t p1 p2 p3 r ht hF d (by omega)
    refine Sp.of (by decide +kernel) rfl (Nat.le_of_ble_eq_true rfl) ?_
    unfold F_X5_walk at hF
    refine V_iload_n dX5_walk_0 rfl ?_
    refine V_if_ne (tgt := 21) dX5_walk_1 (by decide) (fun c => ?_) (fun c => ?_)
    · replace hF := (if_neg c).symm.trans hF
      refine V_iload_n dX5_walk_21 rfl ?_
      refine V_bipush (v := 6) dX5_walk_22 (by decide) ?_
      refine V_icmp_lt (tgt := 29) dX5_walk_24 (by decide) (fun c => ?_) (fun c => ?_)
      · replace hF := (if_pos c).symm.trans hF
        refine V_iload_n dX5_walk_29 rfl ?_
        obtain ⟨y1, hc, hF⟩ := bd hF
        refine V_callS dX5_walk_30 kX5_57 (s_J6_numberOfTrailingZeros_0f7a4 G hc (by omega)) rfl (Nat.le_of_ble_eq_true rfl) (fun _ _ _ q => q.elim) ?_
        rintro _ _ ⟨rfl, rfl⟩
        refine V_istore dX5_walk_33 (by decide) ?_
        refine V_iload_n dX5_walk_35 rfl ?_
        refine V_iload_n dX5_walk_36 rfl ?_
        refine V_iconst (v := 1) dX5_walk_37 (by decide) ?_
        refine V_isub dX5_walk_38 ?_
        refine V_iand dX5_walk_39 ?_
        obtain ⟨x2, qx2, hF⟩ := bnd_g hF
        refine B_istore qx2 dX5_walk_40 (by decide) ?_
        refine V_iconst (v := 0) dX5_walk_42 (by decide) ?_
        refine V_istore dX5_walk_43 (by decide) ?_
        refine V_iload dX5_walk_45 rfl ?_
        refine V_iconst (v := 1) dX5_walk_47 (by decide) ?_
        refine V_iadd dX5_walk_48 ?_
        obtain ⟨x3, qx3, hF⟩ := bnd_g hF
        refine B_istore qx3 dX5_walk_49 (by decide) ?_
        exact V_lv' (w_X5_walk_L51 ht G (by omega) hkR f _ _ _ _ hF) (v_all_c rfl (v_all_c rfl (v_all_c rfl (v_all_c rfl (v_all_c rfl (v_all_c rfl (v_all_c rfl v_all_n)))))))
      · replace hF := (if_neg c).symm.trans hF
        refine V_iconst (v := 0) dX5_walk_27 (by decide) ?_
        cases hF
        exact V_ireturn dX5_walk_28 rfl rfl ⟨rfl, rfl⟩
    · replace hF := (if_pos c).symm.trans hF
      refine V_aload_n dX5_walk_4 rfl ?_
      refine X_gC G dX5_walk_5 fX5_12 ht.1 rfl ?_
      refine V_iload_n dX5_walk_8 rfl ?_
      obtain ⟨y4, hc, hF⟩ := bd hF
      refine V_callV G dX5_walk_9 kX5_86 (wd_at ht.2.1.1) ⟨by decide, rfl⟩ (s_X4_hangs ht.2.1 G hc (by omega)) rfl (Nat.le_of_ble_eq_true rfl) (fun _ _ _ q => q.elim) ?_
      rintro _ _ ⟨rfl, rfl⟩
      refine V_if_eq (tgt := 19) dX5_walk_12 (by decide) (fun c => ?_) (fun c => ?_)
      · replace hF := (if_pos c).symm.trans hF
        refine V_iconst (v := 0) dX5_walk_19 (by decide) ?_
        cases hF
        exact V_ireturn dX5_walk_20 rfl rfl ⟨rfl, rfl⟩
      · replace hF := (if_neg c).symm.trans hF
        refine V_iconst (v := 1) dX5_walk_15 (by decide) ?_
        refine V_goto (tgt := 20) dX5_walk_16 (by decide) ?_
        cases hF
        exact V_ireturn dX5_walk_20 rfl rfl ⟨rfl, rfl⟩
set_option maxRecDepth 100000 in
set_option maxHeartbeats 4000000 in
theorem w_X5_walkAll_L3 {l : Launch} {s0 : State} {D : va_G} {a0 : Array Value} {sh : List Sh} {f : Nat} {t : Nat} {p1 : Nat} {p2 : Nat} {p3 : Nat} {p4 : Int32} (ht : isX5 sh t) (hp1 : isX0 sh p1) (hp2 : isX1 sh p2) (hp3 : isX3 sh p3) {r : St} {d : Nat} (G : GC l s0 D a0) (hd : 14 ≤ d + 1) : ∀ (n : Nat) (S : St) (l5 : Int32), F_X5_walkAll_L3 sh f t p1 p2 p3 p4 n S l5 = some r → V l s0 D (d + 1) 0 0 mX5_walkAll (fun v h => v = none ∧ h = wd s0.heap.size sh r) v_noX 3 [(0, .ref (s0.heap.size + t)), (1, .ref (s0.heap.size + p1)), (2, .ref (s0.heap.size + p2)), (3, .ref (s0.heap.size + p3)), (4, .int p4), (5, .int l5)] [] (wd s0.heap.size sh S) := by
  intro n
  induction n with
  | zero => intro S l5 hF; cases hF
  | succ n ih =>
    intro S l5 hF
    unfold F_X5_walkAll_L3 at hF
    refine V_iload dX5_walkAll_3 rfl ?_
    refine V_aload_n dX5_walkAll_5 rfl ?_
    refine X_gI G dX5_walkAll_6 fX5_168 hp3.1 rfl ?_
    refine V_icmp_ge (tgt := 91) dX5_walkAll_9 (by decide) (fun c => ?_) (fun c => ?_)
    · replace hF := (if_pos c).symm.trans hF
      cases hF
      exact V_return dX5_walkAll_91 rfl ⟨rfl, rfl⟩
    · replace hF := (if_neg c).symm.trans hF
      refine V_aload_n dX5_walkAll_12 rfl ?_
      refine X_gC G dX5_walkAll_13 fX5_171 hp3.1 rfl ?_
      refine V_iload dX5_walkAll_16 rfl ?_
      obtain ⟨hz, hF⟩ := gv_out hF
      refine X_iald dX5_walkAll_18 hp3.2.2.2.2.2.2.2.2.2.2.2.2.2.2.1 hz ?_
      refine V_iload dX5_walkAll_19 rfl ?_
      refine V_icmp_ne (tgt := 85) dX5_walkAll_21 (by decide) (fun c => ?_) (fun c => ?_)
      · replace hF := (if_neg c).symm.trans hF
        obtain ⟨x1, qx1, hF⟩ := bnd_g hF
        refine B_iinc (v := 1) qx1 dX5_walkAll_85 rfl (by decide) (by decide) ?_
        refine V_goto (tgt := 3) dX5_walkAll_88 (by decide) ?_
        exact V_lv' (ih _ _ hF) (v_all_c rfl (v_all_c rfl (v_all_c rfl (v_all_c rfl (v_all_c rfl (v_all_c rfl v_all_n))))))
      · replace hF := (if_pos c).symm.trans hF
        refine V_aload_n dX5_walkAll_24 rfl ?_
        refine X_gC G dX5_walkAll_25 fX5_174 hp3.1 rfl ?_
        refine V_iload dX5_walkAll_28 rfl ?_
        obtain ⟨hz, hF⟩ := gv_out hF
        refine X_zald dX5_walkAll_30 hp3.2.2.2.2.2.2.2.2.2.2.2.2.2.2.2.2 hz ?_
        refine V_if_ne (tgt := 85) dX5_walkAll_31 (by decide) (fun c => ?_) (fun c => ?_)
        · replace hF := (if_neg c).symm.trans hF
          obtain ⟨x2, qx2, hF⟩ := bnd_g hF
          refine B_iinc (v := 1) qx2 dX5_walkAll_85 rfl (by decide) (by decide) ?_
          refine V_goto (tgt := 3) dX5_walkAll_88 (by decide) ?_
          exact V_lv' (ih _ _ hF) (v_all_c rfl (v_all_c rfl (v_all_c rfl (v_all_c rfl (v_all_c rfl (v_all_c rfl v_all_n))))))
        · replace hF := (if_pos c).symm.trans hF
          refine V_aload_n dX5_walkAll_34 rfl ?_
          refine X_gC G dX5_walkAll_35 fX5_12 ht.1 rfl ?_
          refine V_aload_n dX5_walkAll_38 rfl ?_
          refine V_aload_n dX5_walkAll_39 rfl ?_
          refine V_aload_n dX5_walkAll_40 rfl ?_
          refine X_gI G dX5_walkAll_41 fX5_178 hp3.1 rfl ?_
          refine V_aload_n dX5_walkAll_44 rfl ?_
          refine X_gC G dX5_walkAll_45 fX5_181 hp3.1 rfl ?_
          refine V_iload dX5_walkAll_48 rfl ?_
          obtain ⟨hz, hF⟩ := gv_out hF
          refine X_iald dX5_walkAll_50 hp3.2.2.2.2.2.2.2.2.1 hz ?_
          obtain ⟨y3, hc, hF⟩ := bd hF
          refine V_callV G dX5_walkAll_51 kX5_37 (wd_at ht.2.1.1) ⟨by decide, rfl⟩ (s_X4_lay ht.2.1 hp1 hp2 G hc (by omega)) rfl (Nat.le_of_ble_eq_true rfl) (fun _ _ _ q => q.elim) ?_
          rintro _ _ ⟨rfl, rfl⟩
          refine V_if_eq (tgt := 85) dX5_walkAll_54 (by decide) (fun c => ?_) (fun c => ?_)
          · replace hF := (if_pos c).symm.trans hF
            obtain ⟨x4, qx4, hF⟩ := bnd_g hF
            refine B_iinc (v := 1) qx4 dX5_walkAll_85 rfl (by decide) (by decide) ?_
            refine V_goto (tgt := 3) dX5_walkAll_88 (by decide) ?_
            exact V_lv' (ih _ _ hF) (v_all_c rfl (v_all_c rfl (v_all_c rfl (v_all_c rfl (v_all_c rfl (v_all_c rfl v_all_n))))))
          · replace hF := (if_neg c).symm.trans hF
            refine V_aload_n dX5_walkAll_57 rfl ?_
            refine X_gC G dX5_walkAll_58 fX5_184 hp3.1 rfl ?_
            refine V_iload dX5_walkAll_61 rfl ?_
            refine V_aload_n dX5_walkAll_63 rfl ?_
            refine V_aload_n dX5_walkAll_64 rfl ?_
            refine X_gC G dX5_walkAll_65 fX5_12 ht.1 rfl ?_
            obtain ⟨y5, hc, hF⟩ := bd hF
            refine V_callV G dX5_walkAll_68 kX5_45 (wd_at ht.2.1.1) ⟨by decide, rfl⟩ (s_X4_allLegs ht.2.1 G hc (by omega)) rfl (Nat.le_of_ble_eq_true rfl) (fun _ _ _ q => q.elim) ?_
            rintro _ _ ⟨rfl, rfl⟩
            refine V_iconst (v := 0) dX5_walkAll_71 (by decide) ?_
            refine V_iconst (v := 0) dX5_walkAll_72 (by decide) ?_
            obtain ⟨y6, hc, hF⟩ := bd hF
            refine V_callV G dX5_walkAll_73 kX5_187 (wd_at ht.1) ⟨by decide, rfl⟩ (s_X5_walk G 10 _ _ _ _ _ _ ht hc _ (by omega)) rfl (Nat.le_of_ble_eq_true rfl) (fun _ _ _ q => q.elim) ?_
            rintro _ _ ⟨rfl, rfl⟩
            obtain ⟨hz, hF⟩ := gv_out hF
            refine X_iast dX5_walkAll_76 hp3.2.2.2.2.2.2.2.2.2.2.2.2.2.2.2.1 hz ?_
            obtain ⟨S7, qS7, hF⟩ := bnd_g hF
            refine V_eqS qS7 ?_
            refine V_aload_n dX5_walkAll_77 rfl ?_
            refine X_gC G dX5_walkAll_78 fX5_174 hp3.1 rfl ?_
            refine V_iload dX5_walkAll_81 rfl ?_
            refine V_iconst (v := 1) dX5_walkAll_83 (by decide) ?_
            obtain ⟨hz, hF⟩ := gv_out hF
            refine X_zast dX5_walkAll_84 hp3.2.2.2.2.2.2.2.2.2.2.2.2.2.2.2.2 hz ?_
            obtain ⟨S8, qS8, hF⟩ := bnd_g hF
            refine V_eqS qS8 ?_
            obtain ⟨x9, qx9, hF⟩ := bnd_g hF
            refine B_iinc (v := 1) qx9 dX5_walkAll_85 rfl (by decide) (by decide) ?_
            refine V_goto (tgt := 3) dX5_walkAll_88 (by decide) ?_
            exact V_lv' (ih _ _ hF) (v_all_c rfl (v_all_c rfl (v_all_c rfl (v_all_c rfl (v_all_c rfl (v_all_c rfl v_all_n))))))
set_option maxRecDepth 100000 in
set_option maxHeartbeats 4000000 in
theorem s_X5_walkAll {l : Launch} {s0 : State} {D : va_G} {a0 : Array Value} {sh : List Sh} {f : Nat} {S : St} {t : Nat} {p1 : Nat} {p2 : Nat} {p3 : Nat} {p4 : Int32} (ht : isX5 sh t) (hp1 : isX0 sh p1) (hp2 : isX1 sh p2) (hp3 : isX3 sh p3) {r : St} (G : GC l s0 D a0) (hF : F_X5_walkAll sh f S t p1 p2 p3 p4 = some r) {d : Nat} (hd : 14 ≤ d) : Sp l s0 D d 0 0 mX5_walkAll (fun v h => v = none ∧ h = wd s0.heap.size sh r) v_noX [.ref (s0.heap.size + t), .ref (s0.heap.size + p1), .ref (s0.heap.size + p2), .ref (s0.heap.size + p3), .int p4] (wd s0.heap.size sh S) := by
  obtain ⟨d, rfl⟩ : ∃ e, d = e + 1 := ⟨d - 1, by omega⟩
  refine Sp.of (by decide +kernel) rfl (Nat.le_of_ble_eq_true rfl) ?_
  unfold F_X5_walkAll at hF
  refine V_iconst (v := 0) dX5_walkAll_0 (by decide) ?_
  refine V_istore dX5_walkAll_1 (by decide) ?_
  exact V_lv' (w_X5_walkAll_L3 ht hp1 hp2 hp3 G hd f _ _ hF) (v_all_c rfl (v_all_c rfl (v_all_c rfl (v_all_c rfl (v_all_c rfl (v_all_c rfl v_all_n))))))
set_option maxRecDepth 100000 in
set_option maxHeartbeats 4000000 in
theorem w_X6_put_L3 {l : Launch} {s0 : State} {D : va_G} {a0 : Array Value} {sh : List Sh} {f : Nat} {t : Nat} {p1 : Int32} (ht : isX6 sh t) {r : St} {d : Nat} (G : GC l s0 D a0) (hd : 1 ≤ d + 1) : ∀ (n : Nat) (S : St) (l2 : Int32), F_X6_put_L3 sh f t p1 n S l2 = some r → V l s0 D (d + 1) 0 0 mX6_put (fun v h => v = none ∧ h = wd s0.heap.size sh r) v_noX 3 [(0, .ref (s0.heap.size + t)), (1, .int p1), (2, .int l2)] [] (wd s0.heap.size sh S) := by
  intro n
  induction n with
  | zero => intro S l2 hF; cases hF
  | succ n ih =>
    intro S l2 hF
    unfold F_X6_put_L3 at hF
    refine V_iload_n dX6_put_3 rfl ?_
    refine V_if_lt (tgt := 46) dX6_put_4 (by decide) (fun c => ?_) (fun c => ?_)
    · replace hF := (if_pos c).symm.trans hF
      cases hF
      exact V_return dX6_put_46 rfl ⟨rfl, rfl⟩
    · replace hF := (if_neg c).symm.trans hF
      refine V_aload_n dX6_put_7 rfl ?_
      refine X_gI G dX6_put_8 fX6_22 ht.1 rfl ?_
      refine V_sipush (v := 400) dX6_put_11 (by decide) ?_
      refine V_icmp_ge (tgt := 40) dX6_put_14 (by decide) (fun c => ?_) (fun c => ?_)
      · replace hF := (if_pos c).symm.trans hF
        obtain ⟨x1, qx1, hF⟩ := bnd_g hF
        refine B_iinc (v := -8) qx1 dX6_put_40 rfl (by decide) (by decide) ?_
        refine V_goto (tgt := 3) dX6_put_43 (by decide) ?_
        exact V_lv' (ih _ _ hF) (v_all_c rfl (v_all_c rfl (v_all_c rfl v_all_n)))
      · replace hF := (if_neg c).symm.trans hF
        refine V_aload_n dX6_put_17 rfl ?_
        refine X_gC G dX6_put_18 fX6_11 ht.1 rfl ?_
        refine V_aload_n dX6_put_21 rfl ?_
        refine X_gI G dX6_put_22 fX6_22 ht.1 rfl ?_
        refine V_iload_n dX6_put_25 rfl ?_
        refine V_iload_n dX6_put_26 rfl ?_
        refine V_ishr dX6_put_27 ?_
        refine V_i2b dX6_put_28 ?_
        obtain ⟨hz, hF⟩ := gv_out hF
        refine X_bast dX6_put_29 ht.2 hz ?_
        obtain ⟨S2, qS2, hF⟩ := bnd_g hF
        refine V_eqS qS2 ?_
        refine V_aload_n dX6_put_30 rfl ?_
        refine V_dup dX6_put_31 rfl ?_
        refine X_gI G dX6_put_32 fX6_22 ht.1 rfl ?_
        refine V_iconst (v := 1) dX6_put_35 (by decide) ?_
        refine V_iadd dX6_put_36 ?_
        refine X_pI G dX6_put_37 gX6_22 ht.1 rfl rfl rfl ?_
        obtain ⟨S3, qS3, hF⟩ := bnd_g hF
        refine V_eqS qS3 ?_
        obtain ⟨x4, qx4, hF⟩ := bnd_g hF
        refine B_iinc (v := -8) qx4 dX6_put_40 rfl (by decide) (by decide) ?_
        refine V_goto (tgt := 3) dX6_put_43 (by decide) ?_
        exact V_lv' (ih _ _ hF) (v_all_c rfl (v_all_c rfl (v_all_c rfl v_all_n)))
set_option maxRecDepth 100000 in
set_option maxHeartbeats 4000000 in
theorem s_X6_put {l : Launch} {s0 : State} {D : va_G} {a0 : Array Value} {sh : List Sh} {f : Nat} {S : St} {t : Nat} {p1 : Int32} (ht : isX6 sh t) {r : St} (G : GC l s0 D a0) (hF : F_X6_put sh f S t p1 = some r) {d : Nat} (hd : 1 ≤ d) : Sp l s0 D d 0 0 mX6_put (fun v h => v = none ∧ h = wd s0.heap.size sh r) v_noX [.ref (s0.heap.size + t), .int p1] (wd s0.heap.size sh S) := by
  obtain ⟨d, rfl⟩ : ∃ e, d = e + 1 := ⟨d - 1, by omega⟩
  refine Sp.of (by decide +kernel) rfl (Nat.le_of_ble_eq_true rfl) ?_
  unfold F_X6_put at hF
  refine V_bipush (v := 24) dX6_put_0 (by decide) ?_
  refine V_istore_n dX6_put_2 (by decide) ?_
  exact V_lv' (w_X6_put_L3 ht G hd f _ _ hF) (v_all_c rfl (v_all_c rfl (v_all_c rfl v_all_n)))
set_option maxRecDepth 100000 in
set_option maxHeartbeats 4000000 in
theorem s_X6_take {l : Launch} {s0 : State} {D : va_G} {a0 : Array Value} {sh : List Sh} {f : Nat} {S : St} {t : Nat} {p1 : Int32} {p2 : Int32} {p3 : Int32} {p4 : Int32} {p5 : Int32} (ht : isX6 sh t) {r : Int32 × St} (G : GC l s0 D a0) (hF : F_X6_take sh f S t p1 p2 p3 p4 p5 = some r) {d : Nat} (hd : 2 ≤ d) : Sp l s0 D d 0 0 mX6_take (fun v h => v = some (.int r.1) ∧ h = wd s0.heap.size sh r.2) v_noX [.ref (s0.heap.size + t), .int p1, .int p2, .int p3, .int p4, .int p5] (wd s0.heap.size sh S) := by
  obtain ⟨d, rfl⟩ : ∃ e, d = e + 1 := ⟨d - 1, by omega⟩
  refine Sp.of (by decide +kernel) rfl (Nat.le_of_ble_eq_true rfl) ?_
  unfold F_X6_take at hF
  refine V_aload_n dX6_take_0 rfl ?_
  refine X_gI G dX6_take_1 fX6_22 ht.1 rfl ?_
  refine V_sipush (v := 380) dX6_take_4 (by decide) ?_
  refine V_icmp_le (tgt := 12) dX6_take_7 (by decide) (fun c => ?_) (fun c => ?_)
  · replace hF := (if_pos c).symm.trans hF
    refine V_aload_n dX6_take_12 rfl ?_
    refine V_iload_n dX6_take_13 rfl ?_
    obtain ⟨y1, hc, hF⟩ := bd hF
    refine V_callV G dX6_take_14 kX6_26 (wd_at ht.1) ⟨by decide, rfl⟩ (s_X6_put ht G hc (by omega)) rfl (Nat.le_of_ble_eq_true rfl) (fun _ _ _ q => q.elim) ?_
    rintro _ _ ⟨rfl, rfl⟩
    refine V_aload_n dX6_take_17 rfl ?_
    refine V_iload_n dX6_take_18 rfl ?_
    obtain ⟨y2, hc, hF⟩ := bd hF
    refine V_callV G dX6_take_19 kX6_26 (wd_at ht.1) ⟨by decide, rfl⟩ (s_X6_put ht G hc (by omega)) rfl (Nat.le_of_ble_eq_true rfl) (fun _ _ _ q => q.elim) ?_
    rintro _ _ ⟨rfl, rfl⟩
    refine V_aload_n dX6_take_22 rfl ?_
    refine V_iload_n dX6_take_23 rfl ?_
    obtain ⟨y3, hc, hF⟩ := bd hF
    refine V_callV G dX6_take_24 kX6_26 (wd_at ht.1) ⟨by decide, rfl⟩ (s_X6_put ht G hc (by omega)) rfl (Nat.le_of_ble_eq_true rfl) (fun _ _ _ q => q.elim) ?_
    rintro _ _ ⟨rfl, rfl⟩
    refine V_aload_n dX6_take_27 rfl ?_
    refine V_iload dX6_take_28 rfl ?_
    obtain ⟨y4, hc, hF⟩ := bd hF
    refine V_callV G dX6_take_30 kX6_26 (wd_at ht.1) ⟨by decide, rfl⟩ (s_X6_put ht G hc (by omega)) rfl (Nat.le_of_ble_eq_true rfl) (fun _ _ _ q => q.elim) ?_
    rintro _ _ ⟨rfl, rfl⟩
    refine V_aload_n dX6_take_33 rfl ?_
    refine V_iload dX6_take_34 rfl ?_
    obtain ⟨y5, hc, hF⟩ := bd hF
    refine V_callV G dX6_take_36 kX6_26 (wd_at ht.1) ⟨by decide, rfl⟩ (s_X6_put ht G hc (by omega)) rfl (Nat.le_of_ble_eq_true rfl) (fun _ _ _ q => q.elim) ?_
    rintro _ _ ⟨rfl, rfl⟩
    refine V_aload_n dX6_take_39 rfl ?_
    refine X_gI G dX6_take_40 fX6_22 ht.1 rfl ?_
    cases hF
    exact V_ireturn dX6_take_43 rfl rfl ⟨rfl, rfl⟩
  · replace hF := (if_neg c).symm.trans hF
    refine V_iconst (v := -1) dX6_take_10 (by decide) ?_
    cases hF
    exact V_ireturn dX6_take_11 rfl rfl ⟨rfl, rfl⟩
set_option maxRecDepth 100000 in
set_option maxHeartbeats 4000000 in
theorem s_X6_byteAt {l : Launch} {s0 : State} {D : va_G} {a0 : Array Value} {sh : List Sh} {f : Nat} {S : St} {t : Nat} {p1 : Int32} (ht : isX6 sh t) {r : Int32} (G : GC l s0 D a0) (hF : F_X6_byteAt sh f S t p1 = some r) {d : Nat} (hd : 1 ≤ d) : Sp l s0 D d 0 0 mX6_byteAt (fun v h => v = some (.int r) ∧ h = wd s0.heap.size sh S) v_noX [.ref (s0.heap.size + t), .int p1] (wd s0.heap.size sh S) := by
  obtain ⟨d, rfl⟩ : ∃ e, d = e + 1 := ⟨d - 1, by omega⟩
  refine Sp.of (by decide +kernel) rfl (Nat.le_of_ble_eq_true rfl) ?_
  unfold F_X6_byteAt at hF
  refine V_iload_n dX6_byteAt_0 rfl ?_
  refine V_if_lt (tgt := 28) dX6_byteAt_1 (by decide) (fun c => ?_) (fun c => ?_)
  · replace hF := (if_pos c).symm.trans hF
    refine V_iconst (v := 0) dX6_byteAt_28 (by decide) ?_
    cases hF
    exact V_ireturn dX6_byteAt_29 rfl rfl ⟨rfl, rfl⟩
  · replace hF := (if_neg c).symm.trans hF
    refine V_iload_n dX6_byteAt_4 rfl ?_
    refine V_aload_n dX6_byteAt_5 rfl ?_
    refine X_gI G dX6_byteAt_6 fX6_30 ht.1 rfl ?_
    refine V_icmp_ge (tgt := 28) dX6_byteAt_9 (by decide) (fun c => ?_) (fun c => ?_)
    · replace hF := (if_pos c).symm.trans hF
      refine V_iconst (v := 0) dX6_byteAt_28 (by decide) ?_
      cases hF
      exact V_ireturn dX6_byteAt_29 rfl rfl ⟨rfl, rfl⟩
    · replace hF := (if_neg c).symm.trans hF
      refine V_iload_n dX6_byteAt_12 rfl ?_
      refine V_sipush (v := 400) dX6_byteAt_13 (by decide) ?_
      refine V_icmp_ge (tgt := 28) dX6_byteAt_16 (by decide) (fun c => ?_) (fun c => ?_)
      · replace hF := (if_pos c).symm.trans hF
        refine V_iconst (v := 0) dX6_byteAt_28 (by decide) ?_
        cases hF
        exact V_ireturn dX6_byteAt_29 rfl rfl ⟨rfl, rfl⟩
      · replace hF := (if_neg c).symm.trans hF
        refine V_aload_n dX6_byteAt_19 rfl ?_
        refine X_gC G dX6_byteAt_20 fX6_11 ht.1 rfl ?_
        refine V_iload_n dX6_byteAt_23 rfl ?_
        obtain ⟨hz, hF⟩ := gv_out hF
        refine X_bald dX6_byteAt_24 ht.2 hz ?_
        refine V_goto (tgt := 29) dX6_byteAt_25 (by decide) ?_
        cases hF
        exact V_ireturn dX6_byteAt_29 rfl rfl ⟨rfl, rfl⟩
set_option maxRecDepth 100000 in
set_option maxHeartbeats 4000000 in
theorem s_X6_isSmall {l : Launch} {s0 : State} {D : va_G} {a0 : Array Value} {sh : List Sh} {f : Nat} {S : St} {p0 : Int32} {r : Int32} (G : GC l s0 D a0) (hF : F_X6_isSmall sh f S p0 = some r) {d : Nat} (hd : 1 ≤ d) : Sp l s0 D d 0 0 mX6_isSmall (fun v h => v = some (.int r) ∧ h = wd s0.heap.size sh S) v_noX [.int p0] (wd s0.heap.size sh S) := by
  obtain ⟨d, rfl⟩ : ∃ e, d = e + 1 := ⟨d - 1, by omega⟩
  refine Sp.of (by decide +kernel) rfl (Nat.le_of_ble_eq_true rfl) ?_
  unfold F_X6_isSmall at hF
  refine V_iload_n dX6_isSmall_0 rfl ?_
  refine V_bipush (v := 97) dX6_isSmall_1 (by decide) ?_
  refine V_icmp_lt (tgt := 16) dX6_isSmall_3 (by decide) (fun c => ?_) (fun c => ?_)
  · replace hF := (if_pos c).symm.trans hF
    refine V_iconst (v := 0) dX6_isSmall_16 (by decide) ?_
    cases hF
    exact V_ireturn dX6_isSmall_17 rfl (by decide) ⟨rfl, rfl⟩
  · replace hF := (if_neg c).symm.trans hF
    refine V_iload_n dX6_isSmall_6 rfl ?_
    refine V_bipush (v := 122) dX6_isSmall_7 (by decide) ?_
    refine V_icmp_gt (tgt := 16) dX6_isSmall_9 (by decide) (fun c => ?_) (fun c => ?_)
    · replace hF := (if_pos c).symm.trans hF
      refine V_iconst (v := 0) dX6_isSmall_16 (by decide) ?_
      cases hF
      exact V_ireturn dX6_isSmall_17 rfl (by decide) ⟨rfl, rfl⟩
    · replace hF := (if_neg c).symm.trans hF
      refine V_iconst (v := 1) dX6_isSmall_12 (by decide) ?_
      refine V_goto (tgt := 17) dX6_isSmall_13 (by decide) ?_
      cases hF
      exact V_ireturn dX6_isSmall_17 rfl (by decide) ⟨rfl, rfl⟩
set_option maxRecDepth 100000 in
set_option maxHeartbeats 4000000 in
theorem w_X6_readWord_L5 {l : Launch} {s0 : State} {D : va_G} {a0 : Array Value} {sh : List Sh} {f : Nat} {t : Nat} (ht : isX6 sh t) {r : St} {d : Nat} (G : GC l s0 D a0) (hd : 2 ≤ d + 1) : ∀ (n : Nat) (S : St), F_X6_readWord_L5 sh f t n S = some r → V l s0 D (d + 1) 0 0 mX6_readWord (fun v h => v = none ∧ h = wd s0.heap.size sh r) v_noX 5 [(0, .ref (s0.heap.size + t))] [] (wd s0.heap.size sh S) := by
  intro n
  induction n with
  | zero => intro S hF; cases hF
  | succ n ih =>
    intro S hF
    unfold F_X6_readWord_L5 at hF
    refine V_aload_n dX6_readWord_5 rfl ?_
    refine X_gI G dX6_readWord_6 fX6_33 ht.1 rfl ?_
    refine V_aload_n dX6_readWord_9 rfl ?_
    refine X_gI G dX6_readWord_10 fX6_30 ht.1 rfl ?_
    refine V_icmp_ge (tgt := 68) dX6_readWord_13 (by decide) (fun c => ?_) (fun c => ?_)
    · replace hF := (if_pos c).symm.trans hF
      refine V_aload_n dX6_readWord_68 rfl ?_
      refine V_aload_n dX6_readWord_69 rfl ?_
      refine X_gI G dX6_readWord_70 fX6_33 ht.1 rfl ?_
      refine V_aload_n dX6_readWord_73 rfl ?_
      refine X_gI G dX6_readWord_74 fX6_55 ht.1 rfl ?_
      refine V_isub dX6_readWord_77 ?_
      refine V_bipush (v := 8) dX6_readWord_78 (by decide) ?_
      refine V_icmp_le (tgt := 87) dX6_readWord_80 (by decide) (fun c => ?_) (fun c => ?_)
      · replace hF := (if_pos c).symm.trans hF
        refine V_iconst (v := 1) dX6_readWord_87 (by decide) ?_
        refine X_pI G dX6_readWord_88 gX6_52 ht.1 rfl rfl rfl ?_
        obtain ⟨S1, qS1, hF⟩ := bnd_g hF
        refine V_eqS qS1 ?_
        cases hF
        exact V_return dX6_readWord_91 rfl ⟨rfl, rfl⟩
      · replace hF := (if_neg c).symm.trans hF
        refine V_iconst (v := 5) dX6_readWord_83 (by decide) ?_
        refine V_goto (tgt := 88) dX6_readWord_84 (by decide) ?_
        refine X_pI G dX6_readWord_88 gX6_52 ht.1 rfl rfl rfl ?_
        obtain ⟨S2, qS2, hF⟩ := bnd_g hF
        refine V_eqS qS2 ?_
        cases hF
        exact V_return dX6_readWord_91 rfl ⟨rfl, rfl⟩
    · replace hF := (if_neg c).symm.trans hF
      refine V_aload_n dX6_readWord_16 rfl ?_
      refine V_aload_n dX6_readWord_17 rfl ?_
      refine X_gI G dX6_readWord_18 fX6_33 ht.1 rfl ?_
      obtain ⟨y3, hc, hF⟩ := bd hF
      refine V_callV G dX6_readWord_21 kX6_62 (wd_at ht.1) ⟨by decide, rfl⟩ (s_X6_byteAt ht G hc (by omega)) rfl (Nat.le_of_ble_eq_true rfl) (fun _ _ _ q => q.elim) ?_
      rintro _ _ ⟨rfl, rfl⟩
      obtain ⟨y4, hc, hF⟩ := bd hF
      refine V_callS dX6_readWord_24 kX6_66 (s_X6_isSmall G hc (by omega)) rfl (Nat.le_of_ble_eq_true rfl) (fun _ _ _ q => q.elim) ?_
      rintro _ _ ⟨rfl, rfl⟩
      refine V_if_eq (tgt := 68) dX6_readWord_27 (by decide) (fun c => ?_) (fun c => ?_)
      · replace hF := (if_pos c).symm.trans hF
        refine V_aload_n dX6_readWord_68 rfl ?_
        refine V_aload_n dX6_readWord_69 rfl ?_
        refine X_gI G dX6_readWord_70 fX6_33 ht.1 rfl ?_
        refine V_aload_n dX6_readWord_73 rfl ?_
        refine X_gI G dX6_readWord_74 fX6_55 ht.1 rfl ?_
        refine V_isub dX6_readWord_77 ?_
        refine V_bipush (v := 8) dX6_readWord_78 (by decide) ?_
        refine V_icmp_le (tgt := 87) dX6_readWord_80 (by decide) (fun c => ?_) (fun c => ?_)
        · replace hF := (if_pos c).symm.trans hF
          refine V_iconst (v := 1) dX6_readWord_87 (by decide) ?_
          refine X_pI G dX6_readWord_88 gX6_52 ht.1 rfl rfl rfl ?_
          obtain ⟨S5, qS5, hF⟩ := bnd_g hF
          refine V_eqS qS5 ?_
          cases hF
          exact V_return dX6_readWord_91 rfl ⟨rfl, rfl⟩
        · replace hF := (if_neg c).symm.trans hF
          refine V_iconst (v := 5) dX6_readWord_83 (by decide) ?_
          refine V_goto (tgt := 88) dX6_readWord_84 (by decide) ?_
          refine X_pI G dX6_readWord_88 gX6_52 ht.1 rfl rfl rfl ?_
          obtain ⟨S6, qS6, hF⟩ := bnd_g hF
          refine V_eqS qS6 ?_
          cases hF
          exact V_return dX6_readWord_91 rfl ⟨rfl, rfl⟩
      · replace hF := (if_neg c).symm.trans hF
        refine V_aload_n dX6_readWord_30 rfl ?_
        refine V_aload_n dX6_readWord_31 rfl ?_
        refine X_gJ G dX6_readWord_32 fX6_79 ht.1 rfl ?_
        refine V_iconst (v := 5) dX6_readWord_35 (by decide) ?_
        refine V_lshl dX6_readWord_36 ?_
        refine V_aload_n dX6_readWord_37 rfl ?_
        refine V_aload_n dX6_readWord_38 rfl ?_
        refine X_gI G dX6_readWord_39 fX6_33 ht.1 rfl ?_
        obtain ⟨y7, hc, hF⟩ := bd hF
        refine V_callV G dX6_readWord_42 kX6_62 (wd_at ht.1) ⟨by decide, rfl⟩ (s_X6_byteAt ht G hc (by omega)) rfl (Nat.le_of_ble_eq_true rfl) (fun _ _ _ q => q.elim) ?_
        rintro _ _ ⟨rfl, rfl⟩
        refine V_bipush (v := 97) dX6_readWord_45 (by decide) ?_
        refine V_isub dX6_readWord_47 ?_
        refine V_iconst (v := 1) dX6_readWord_48 (by decide) ?_
        refine V_iadd dX6_readWord_49 ?_
        refine V_i2l dX6_readWord_50 ?_
        refine V_lor dX6_readWord_51 ?_
        refine X_pJ G dX6_readWord_52 gX6_79 ht.1 rfl ?_
        obtain ⟨S8, qS8, hF⟩ := bnd_g hF
        refine V_eqS qS8 ?_
        refine V_aload_n dX6_readWord_55 rfl ?_
        refine V_dup dX6_readWord_56 rfl ?_
        refine X_gI G dX6_readWord_57 fX6_33 ht.1 rfl ?_
        refine V_iconst (v := 1) dX6_readWord_60 (by decide) ?_
        refine V_iadd dX6_readWord_61 ?_
        refine X_pI G dX6_readWord_62 gX6_33 ht.1 rfl rfl rfl ?_
        obtain ⟨S9, qS9, hF⟩ := bnd_g hF
        refine V_eqS qS9 ?_
        refine V_goto (tgt := 5) dX6_readWord_65 (by decide) ?_
        exact V_lv' (ih _ hF) (v_all_c rfl v_all_n)
set_option maxRecDepth 100000 in
set_option maxHeartbeats 4000000 in
theorem s_X6_readWord {l : Launch} {s0 : State} {D : va_G} {a0 : Array Value} {sh : List Sh} {f : Nat} {S : St} {t : Nat} (ht : isX6 sh t) {r : St} (G : GC l s0 D a0) (hF : F_X6_readWord sh f S t = some r) {d : Nat} (hd : 2 ≤ d) : Sp l s0 D d 0 0 mX6_readWord (fun v h => v = none ∧ h = wd s0.heap.size sh r) v_noX [.ref (s0.heap.size + t)] (wd s0.heap.size sh S) := by
  obtain ⟨d, rfl⟩ : ∃ e, d = e + 1 := ⟨d - 1, by omega⟩
  refine Sp.of (by decide +kernel) rfl (Nat.le_of_ble_eq_true rfl) ?_
  unfold F_X6_readWord at hF
  refine V_aload_n dX6_readWord_0 rfl ?_
  refine V_lconst (v := 0) dX6_readWord_1 (by decide) ?_
  refine X_pJ G dX6_readWord_2 gX6_79 ht.1 rfl ?_
  obtain ⟨S1, qS1, hF⟩ := bnd_g hF
  refine V_eqS qS1 ?_
  exact V_lv' (w_X6_readWord_L5 ht G hd f _ hF) (v_all_c rfl v_all_n)
set_option maxRecDepth 100000 in
set_option maxHeartbeats 4000000 in
theorem s_X6_isDigit {l : Launch} {s0 : State} {D : va_G} {a0 : Array Value} {sh : List Sh} {f : Nat} {S : St} {p0 : Int32} {r : Int32} (G : GC l s0 D a0) (hF : F_X6_isDigit sh f S p0 = some r) {d : Nat} (hd : 1 ≤ d) : Sp l s0 D d 0 0 mX6_isDigit (fun v h => v = some (.int r) ∧ h = wd s0.heap.size sh S) v_noX [.int p0] (wd s0.heap.size sh S) := by
  obtain ⟨d, rfl⟩ : ∃ e, d = e + 1 := ⟨d - 1, by omega⟩
  refine Sp.of (by decide +kernel) rfl (Nat.le_of_ble_eq_true rfl) ?_
  unfold F_X6_isDigit at hF
  refine V_iload_n dX6_isDigit_0 rfl ?_
  refine V_bipush (v := 48) dX6_isDigit_1 (by decide) ?_
  refine V_icmp_lt (tgt := 16) dX6_isDigit_3 (by decide) (fun c => ?_) (fun c => ?_)
  · replace hF := (if_pos c).symm.trans hF
    refine V_iconst (v := 0) dX6_isDigit_16 (by decide) ?_
    cases hF
    exact V_ireturn dX6_isDigit_17 rfl (by decide) ⟨rfl, rfl⟩
  · replace hF := (if_neg c).symm.trans hF
    refine V_iload_n dX6_isDigit_6 rfl ?_
    refine V_bipush (v := 57) dX6_isDigit_7 (by decide) ?_
    refine V_icmp_gt (tgt := 16) dX6_isDigit_9 (by decide) (fun c => ?_) (fun c => ?_)
    · replace hF := (if_pos c).symm.trans hF
      refine V_iconst (v := 0) dX6_isDigit_16 (by decide) ?_
      cases hF
      exact V_ireturn dX6_isDigit_17 rfl (by decide) ⟨rfl, rfl⟩
    · replace hF := (if_neg c).symm.trans hF
      refine V_iconst (v := 1) dX6_isDigit_12 (by decide) ?_
      refine V_goto (tgt := 17) dX6_isDigit_13 (by decide) ?_
      cases hF
      exact V_ireturn dX6_isDigit_17 rfl (by decide) ⟨rfl, rfl⟩
set_option maxRecDepth 100000 in
set_option maxHeartbeats 4000000 in
theorem w_X6_readWhole_L5 {l : Launch} {s0 : State} {D : va_G} {a0 : Array Value} {sh : List Sh} {f : Nat} {t : Nat} (ht : isX6 sh t) {r : St} {d : Nat} (G : GC l s0 D a0) (hd : 2 ≤ d + 1) : ∀ (n : Nat) (S : St), F_X6_readWhole_L5 sh f t n S = some r → V l s0 D (d + 1) 0 0 mX6_readWhole (fun v h => v = none ∧ h = wd s0.heap.size sh r) v_noX 5 [(0, .ref (s0.heap.size + t))] [] (wd s0.heap.size sh S) := by
  intro n
  induction n with
  | zero => intro S hF; cases hF
  | succ n ih =>
    intro S hF
    unfold F_X6_readWhole_L5 at hF
    refine V_aload_n dX6_readWhole_5 rfl ?_
    refine X_gI G dX6_readWhole_6 fX6_33 ht.1 rfl ?_
    refine V_aload_n dX6_readWhole_9 rfl ?_
    refine X_gI G dX6_readWhole_10 fX6_30 ht.1 rfl ?_
    refine V_icmp_ge (tgt := 66) dX6_readWhole_13 (by decide) (fun c => ?_) (fun c => ?_)
    · replace hF := (if_pos c).symm.trans hF
      refine V_aload_n dX6_readWhole_66 rfl ?_
      refine V_aload_n dX6_readWhole_67 rfl ?_
      refine X_gI G dX6_readWhole_68 fX6_33 ht.1 rfl ?_
      refine V_aload_n dX6_readWhole_71 rfl ?_
      refine X_gI G dX6_readWhole_72 fX6_55 ht.1 rfl ?_
      refine V_isub dX6_readWhole_75 ?_
      refine V_iconst (v := 3) dX6_readWhole_76 (by decide) ?_
      refine V_icmp_le (tgt := 84) dX6_readWhole_77 (by decide) (fun c => ?_) (fun c => ?_)
      · replace hF := (if_pos c).symm.trans hF
        refine V_iconst (v := 2) dX6_readWhole_84 (by decide) ?_
        refine X_pI G dX6_readWhole_85 gX6_52 ht.1 rfl rfl rfl ?_
        obtain ⟨S1, qS1, hF⟩ := bnd_g hF
        refine V_eqS qS1 ?_
        cases hF
        exact V_return dX6_readWhole_88 rfl ⟨rfl, rfl⟩
      · replace hF := (if_neg c).symm.trans hF
        refine V_iconst (v := 5) dX6_readWhole_80 (by decide) ?_
        refine V_goto (tgt := 85) dX6_readWhole_81 (by decide) ?_
        refine X_pI G dX6_readWhole_85 gX6_52 ht.1 rfl rfl rfl ?_
        obtain ⟨S2, qS2, hF⟩ := bnd_g hF
        refine V_eqS qS2 ?_
        cases hF
        exact V_return dX6_readWhole_88 rfl ⟨rfl, rfl⟩
    · replace hF := (if_neg c).symm.trans hF
      refine V_aload_n dX6_readWhole_16 rfl ?_
      refine V_aload_n dX6_readWhole_17 rfl ?_
      refine X_gI G dX6_readWhole_18 fX6_33 ht.1 rfl ?_
      obtain ⟨y3, hc, hF⟩ := bd hF
      refine V_callV G dX6_readWhole_21 kX6_62 (wd_at ht.1) ⟨by decide, rfl⟩ (s_X6_byteAt ht G hc (by omega)) rfl (Nat.le_of_ble_eq_true rfl) (fun _ _ _ q => q.elim) ?_
      rintro _ _ ⟨rfl, rfl⟩
      obtain ⟨y4, hc, hF⟩ := bd hF
      refine V_callS dX6_readWhole_24 kX6_73 (s_X6_isDigit G hc (by omega)) rfl (Nat.le_of_ble_eq_true rfl) (fun _ _ _ q => q.elim) ?_
      rintro _ _ ⟨rfl, rfl⟩
      refine V_if_eq (tgt := 66) dX6_readWhole_27 (by decide) (fun c => ?_) (fun c => ?_)
      · replace hF := (if_pos c).symm.trans hF
        refine V_aload_n dX6_readWhole_66 rfl ?_
        refine V_aload_n dX6_readWhole_67 rfl ?_
        refine X_gI G dX6_readWhole_68 fX6_33 ht.1 rfl ?_
        refine V_aload_n dX6_readWhole_71 rfl ?_
        refine X_gI G dX6_readWhole_72 fX6_55 ht.1 rfl ?_
        refine V_isub dX6_readWhole_75 ?_
        refine V_iconst (v := 3) dX6_readWhole_76 (by decide) ?_
        refine V_icmp_le (tgt := 84) dX6_readWhole_77 (by decide) (fun c => ?_) (fun c => ?_)
        · replace hF := (if_pos c).symm.trans hF
          refine V_iconst (v := 2) dX6_readWhole_84 (by decide) ?_
          refine X_pI G dX6_readWhole_85 gX6_52 ht.1 rfl rfl rfl ?_
          obtain ⟨S5, qS5, hF⟩ := bnd_g hF
          refine V_eqS qS5 ?_
          cases hF
          exact V_return dX6_readWhole_88 rfl ⟨rfl, rfl⟩
        · replace hF := (if_neg c).symm.trans hF
          refine V_iconst (v := 5) dX6_readWhole_80 (by decide) ?_
          refine V_goto (tgt := 85) dX6_readWhole_81 (by decide) ?_
          refine X_pI G dX6_readWhole_85 gX6_52 ht.1 rfl rfl rfl ?_
          obtain ⟨S6, qS6, hF⟩ := bnd_g hF
          refine V_eqS qS6 ?_
          cases hF
          exact V_return dX6_readWhole_88 rfl ⟨rfl, rfl⟩
      · replace hF := (if_neg c).symm.trans hF
        refine V_aload_n dX6_readWhole_30 rfl ?_
        refine V_aload_n dX6_readWhole_31 rfl ?_
        refine X_gI G dX6_readWhole_32 fX6_83 ht.1 rfl ?_
        refine V_bipush (v := 10) dX6_readWhole_35 (by decide) ?_
        refine V_imul dX6_readWhole_37 ?_
        refine V_aload_n dX6_readWhole_38 rfl ?_
        refine V_aload_n dX6_readWhole_39 rfl ?_
        refine X_gI G dX6_readWhole_40 fX6_33 ht.1 rfl ?_
        obtain ⟨y7, hc, hF⟩ := bd hF
        refine V_callV G dX6_readWhole_43 kX6_62 (wd_at ht.1) ⟨by decide, rfl⟩ (s_X6_byteAt ht G hc (by omega)) rfl (Nat.le_of_ble_eq_true rfl) (fun _ _ _ q => q.elim) ?_
        rintro _ _ ⟨rfl, rfl⟩
        refine V_iadd dX6_readWhole_46 ?_
        refine V_bipush (v := 48) dX6_readWhole_47 (by decide) ?_
        refine V_isub dX6_readWhole_49 ?_
        refine X_pI G dX6_readWhole_50 gX6_83 ht.1 rfl rfl rfl ?_
        obtain ⟨S8, qS8, hF⟩ := bnd_g hF
        refine V_eqS qS8 ?_
        refine V_aload_n dX6_readWhole_53 rfl ?_
        refine V_dup dX6_readWhole_54 rfl ?_
        refine X_gI G dX6_readWhole_55 fX6_33 ht.1 rfl ?_
        refine V_iconst (v := 1) dX6_readWhole_58 (by decide) ?_
        refine V_iadd dX6_readWhole_59 ?_
        refine X_pI G dX6_readWhole_60 gX6_33 ht.1 rfl rfl rfl ?_
        obtain ⟨S9, qS9, hF⟩ := bnd_g hF
        refine V_eqS qS9 ?_
        refine V_goto (tgt := 5) dX6_readWhole_63 (by decide) ?_
        exact V_lv' (ih _ hF) (v_all_c rfl v_all_n)
set_option maxRecDepth 100000 in
set_option maxHeartbeats 4000000 in
theorem s_X6_readWhole {l : Launch} {s0 : State} {D : va_G} {a0 : Array Value} {sh : List Sh} {f : Nat} {S : St} {t : Nat} (ht : isX6 sh t) {r : St} (G : GC l s0 D a0) (hF : F_X6_readWhole sh f S t = some r) {d : Nat} (hd : 2 ≤ d) : Sp l s0 D d 0 0 mX6_readWhole (fun v h => v = none ∧ h = wd s0.heap.size sh r) v_noX [.ref (s0.heap.size + t)] (wd s0.heap.size sh S) := by
  obtain ⟨d, rfl⟩ : ∃ e, d = e + 1 := ⟨d - 1, by omega⟩
  refine Sp.of (by decide +kernel) rfl (Nat.le_of_ble_eq_true rfl) ?_
  unfold F_X6_readWhole at hF
  refine V_aload_n dX6_readWhole_0 rfl ?_
  refine V_iconst (v := 0) dX6_readWhole_1 (by decide) ?_
  refine X_pI G dX6_readWhole_2 gX6_83 ht.1 rfl rfl rfl ?_
  obtain ⟨S1, qS1, hF⟩ := bnd_g hF
  refine V_eqS qS1 ?_
  exact V_lv' (w_X6_readWhole_L5 ht G hd f _ hF) (v_all_c rfl v_all_n)
set_option maxRecDepth 100000 in
set_option maxHeartbeats 4000000 in
theorem w_X6_advance_L37 {l : Launch} {s0 : State} {D : va_G} {a0 : Array Value} {sh : List Sh} {f : Nat} {t : Nat} (ht : isX6 sh t) {r : St} {d : Nat} (G : GC l s0 D a0) (hd : 3 ≤ d + 1) : ∀ (S : St), F_X6_advance_L37 sh f t S = some r → V l s0 D (d + 1) 0 0 mX6_advance (fun v h => v = none ∧ h = wd s0.heap.size sh r) v_noX 37 [(0, .ref (s0.heap.size + t))] [] (wd s0.heap.size sh S) := by
  intro S hF
  unfold F_X6_advance_L37 at hF
  refine V_aload_n dX6_advance_37 rfl ?_
  refine V_aload_n dX6_advance_38 rfl ?_
  refine X_gI G dX6_advance_39 fX6_33 ht.1 rfl ?_
  refine X_pI G dX6_advance_42 gX6_55 ht.1 rfl rfl rfl ?_
  obtain ⟨S1, qS1, hF⟩ := bnd_g hF
  refine V_eqS qS1 ?_
  refine V_aload_n dX6_advance_45 rfl ?_
  refine X_gI G dX6_advance_46 fX6_33 ht.1 rfl ?_
  refine V_aload_n dX6_advance_49 rfl ?_
  refine X_gI G dX6_advance_50 fX6_30 ht.1 rfl ?_
  refine V_icmp_lt (tgt := 62) dX6_advance_53 (by decide) (fun c => ?_) (fun c => ?_)
  · replace hF := (if_pos c).symm.trans hF
    refine V_aload_n dX6_advance_62 rfl ?_
    refine V_aload_n dX6_advance_63 rfl ?_
    refine X_gI G dX6_advance_64 fX6_33 ht.1 rfl ?_
    obtain ⟨y2, hc, hF⟩ := bd hF
    refine V_callV G dX6_advance_67 kX6_62 (wd_at ht.1) ⟨by decide, rfl⟩ (s_X6_byteAt ht G hc (by omega)) rfl (Nat.le_of_ble_eq_true rfl) (fun _ _ _ q => q.elim) ?_
    rintro _ _ ⟨rfl, rfl⟩
    refine V_istore_n dX6_advance_70 (by decide) ?_
    refine V_iload_n dX6_advance_71 rfl ?_
    obtain ⟨y3, hc, hF⟩ := bd hF
    refine V_callS dX6_advance_72 kX6_66 (s_X6_isSmall G hc (by omega)) rfl (Nat.le_of_ble_eq_true rfl) (fun _ _ _ q => q.elim) ?_
    rintro _ _ ⟨rfl, rfl⟩
    refine V_if_eq (tgt := 85) dX6_advance_75 (by decide) (fun c => ?_) (fun c => ?_)
    · replace hF := (if_pos c).symm.trans hF
      refine V_iload_n dX6_advance_85 rfl ?_
      obtain ⟨y4, hc, hF⟩ := bd hF
      refine V_callS dX6_advance_86 kX6_73 (s_X6_isDigit G hc (by omega)) rfl (Nat.le_of_ble_eq_true rfl) (fun _ _ _ q => q.elim) ?_
      rintro _ _ ⟨rfl, rfl⟩
      refine V_if_eq (tgt := 99) dX6_advance_89 (by decide) (fun c => ?_) (fun c => ?_)
      · replace hF := (if_pos c).symm.trans hF
        refine V_aload_n dX6_advance_99 rfl ?_
        refine V_iload_n dX6_advance_100 rfl ?_
        refine V_bipush (v := 59) dX6_advance_101 (by decide) ?_
        refine V_icmp_ne (tgt := 110) dX6_advance_103 (by decide) (fun c => ?_) (fun c => ?_)
        · replace hF := (if_neg c).symm.trans hF
          refine V_iload_n dX6_advance_110 rfl ?_
          refine V_bipush (v := 45) dX6_advance_111 (by decide) ?_
          refine V_icmp_ne (tgt := 120) dX6_advance_113 (by decide) (fun c => ?_) (fun c => ?_)
          · replace hF := (if_neg c).symm.trans hF
            refine V_iconst (v := 5) dX6_advance_120 (by decide) ?_
            refine X_pI G dX6_advance_121 gX6_52 ht.1 rfl rfl rfl ?_
            obtain ⟨S5, qS5, hF⟩ := bnd_g hF
            refine V_eqS qS5 ?_
            refine V_aload_n dX6_advance_124 rfl ?_
            refine V_dup dX6_advance_125 rfl ?_
            refine X_gI G dX6_advance_126 fX6_33 ht.1 rfl ?_
            refine V_iconst (v := 1) dX6_advance_129 (by decide) ?_
            refine V_iadd dX6_advance_130 ?_
            refine X_pI G dX6_advance_131 gX6_33 ht.1 rfl rfl rfl ?_
            obtain ⟨S6, qS6, hF⟩ := bnd_g hF
            refine V_eqS qS6 ?_
            cases hF
            exact V_return dX6_advance_134 rfl ⟨rfl, rfl⟩
          · replace hF := (if_pos c).symm.trans hF
            refine V_iconst (v := 4) dX6_advance_116 (by decide) ?_
            refine V_goto (tgt := 121) dX6_advance_117 (by decide) ?_
            refine X_pI G dX6_advance_121 gX6_52 ht.1 rfl rfl rfl ?_
            obtain ⟨S7, qS7, hF⟩ := bnd_g hF
            refine V_eqS qS7 ?_
            refine V_aload_n dX6_advance_124 rfl ?_
            refine V_dup dX6_advance_125 rfl ?_
            refine X_gI G dX6_advance_126 fX6_33 ht.1 rfl ?_
            refine V_iconst (v := 1) dX6_advance_129 (by decide) ?_
            refine V_iadd dX6_advance_130 ?_
            refine X_pI G dX6_advance_131 gX6_33 ht.1 rfl rfl rfl ?_
            obtain ⟨S8, qS8, hF⟩ := bnd_g hF
            refine V_eqS qS8 ?_
            cases hF
            exact V_return dX6_advance_134 rfl ⟨rfl, rfl⟩
        · replace hF := (if_pos c).symm.trans hF
          refine V_iconst (v := 3) dX6_advance_106 (by decide) ?_
          refine V_goto (tgt := 121) dX6_advance_107 (by decide) ?_
          refine X_pI G dX6_advance_121 gX6_52 ht.1 rfl rfl rfl ?_
          obtain ⟨S9, qS9, hF⟩ := bnd_g hF
          refine V_eqS qS9 ?_
          refine V_aload_n dX6_advance_124 rfl ?_
          refine V_dup dX6_advance_125 rfl ?_
          refine X_gI G dX6_advance_126 fX6_33 ht.1 rfl ?_
          refine V_iconst (v := 1) dX6_advance_129 (by decide) ?_
          refine V_iadd dX6_advance_130 ?_
          refine X_pI G dX6_advance_131 gX6_33 ht.1 rfl rfl rfl ?_
          obtain ⟨S10, qS10, hF⟩ := bnd_g hF
          refine V_eqS qS10 ?_
          cases hF
          exact V_return dX6_advance_134 rfl ⟨rfl, rfl⟩
      · replace hF := (if_neg c).symm.trans hF
        refine V_aload_n dX6_advance_92 rfl ?_
        obtain ⟨y11, hc, hF⟩ := bd hF
        refine V_callV G dX6_advance_93 kX6_76 (wd_at ht.1) ⟨by decide, rfl⟩ (s_X6_readWhole ht G hc (by omega)) rfl (Nat.le_of_ble_eq_true rfl) (fun _ _ _ q => q.elim) ?_
        rintro _ _ ⟨rfl, rfl⟩
        refine V_goto (tgt := 134) dX6_advance_96 (by decide) ?_
        cases hF
        exact V_return dX6_advance_134 rfl ⟨rfl, rfl⟩
    · replace hF := (if_neg c).symm.trans hF
      refine V_aload_n dX6_advance_78 rfl ?_
      obtain ⟨y12, hc, hF⟩ := bd hF
      refine V_callV G dX6_advance_79 kX6_70 (wd_at ht.1) ⟨by decide, rfl⟩ (s_X6_readWord ht G hc (by omega)) rfl (Nat.le_of_ble_eq_true rfl) (fun _ _ _ q => q.elim) ?_
      rintro _ _ ⟨rfl, rfl⟩
      refine V_goto (tgt := 134) dX6_advance_82 (by decide) ?_
      cases hF
      exact V_return dX6_advance_134 rfl ⟨rfl, rfl⟩
  · replace hF := (if_neg c).symm.trans hF
    refine V_aload_n dX6_advance_56 rfl ?_
    refine V_iconst (v := 0) dX6_advance_57 (by decide) ?_
    refine X_pI G dX6_advance_58 gX6_52 ht.1 rfl rfl rfl ?_
    obtain ⟨S13, qS13, hF⟩ := bnd_g hF
    refine V_eqS qS13 ?_
    cases hF
    exact V_return dX6_advance_61 rfl ⟨rfl, rfl⟩
set_option maxRecDepth 100000 in
set_option maxHeartbeats 4000000 in
theorem w_X6_advance_L0 {l : Launch} {s0 : State} {D : va_G} {a0 : Array Value} {sh : List Sh} {f : Nat} {t : Nat} (ht : isX6 sh t) {r : St} {d : Nat} (G : GC l s0 D a0) (hd : 3 ≤ d + 1) : ∀ (n : Nat) (S : St), F_X6_advance_L0 sh f t n S = some r → V l s0 D (d + 1) 0 0 mX6_advance (fun v h => v = none ∧ h = wd s0.heap.size sh r) v_noX 0 [(0, .ref (s0.heap.size + t))] [] (wd s0.heap.size sh S) := by
  intro n
  induction n with
  | zero => intro S hF; cases hF
  | succ n ih =>
    intro S hF
    unfold F_X6_advance_L0 at hF
    refine V_aload_n dX6_advance_0 rfl ?_
    refine X_gI G dX6_advance_1 fX6_33 ht.1 rfl ?_
    refine V_aload_n dX6_advance_4 rfl ?_
    refine X_gI G dX6_advance_5 fX6_30 ht.1 rfl ?_
    refine V_icmp_ge (tgt := 37) dX6_advance_8 (by decide) (fun c => ?_) (fun c => ?_)
    · replace hF := (if_pos c).symm.trans hF
      exact V_lv' (w_X6_advance_L37 ht G hd _ hF) (v_all_c rfl v_all_n)
    · replace hF := (if_neg c).symm.trans hF
      refine V_aload_n dX6_advance_11 rfl ?_
      refine V_aload_n dX6_advance_12 rfl ?_
      refine X_gI G dX6_advance_13 fX6_33 ht.1 rfl ?_
      obtain ⟨y1, hc, hF⟩ := bd hF
      refine V_callV G dX6_advance_16 kX6_62 (wd_at ht.1) ⟨by decide, rfl⟩ (s_X6_byteAt ht G hc (by omega)) rfl (Nat.le_of_ble_eq_true rfl) (fun _ _ _ q => q.elim) ?_
      rintro _ _ ⟨rfl, rfl⟩
      refine V_bipush (v := 32) dX6_advance_19 (by decide) ?_
      refine V_icmp_ne (tgt := 37) dX6_advance_21 (by decide) (fun c => ?_) (fun c => ?_)
      · replace hF := (if_neg c).symm.trans hF
        exact V_lv' (w_X6_advance_L37 ht G hd _ hF) (v_all_c rfl v_all_n)
      · replace hF := (if_pos c).symm.trans hF
        refine V_aload_n dX6_advance_24 rfl ?_
        refine V_dup dX6_advance_25 rfl ?_
        refine X_gI G dX6_advance_26 fX6_33 ht.1 rfl ?_
        refine V_iconst (v := 1) dX6_advance_29 (by decide) ?_
        refine V_iadd dX6_advance_30 ?_
        refine X_pI G dX6_advance_31 gX6_33 ht.1 rfl rfl rfl ?_
        obtain ⟨S2, qS2, hF⟩ := bnd_g hF
        refine V_eqS qS2 ?_
        refine V_goto (tgt := 0) dX6_advance_34 (by decide) ?_
        exact V_lv' (ih _ hF) (v_all_c rfl v_all_n)
set_option maxRecDepth 100000 in
set_option maxHeartbeats 4000000 in
theorem s_X6_advance {l : Launch} {s0 : State} {D : va_G} {a0 : Array Value} {sh : List Sh} {f : Nat} {S : St} {t : Nat} (ht : isX6 sh t) {r : St} (G : GC l s0 D a0) (hF : F_X6_advance sh f S t = some r) {d : Nat} (hd : 3 ≤ d) : Sp l s0 D d 0 0 mX6_advance (fun v h => v = none ∧ h = wd s0.heap.size sh r) v_noX [.ref (s0.heap.size + t)] (wd s0.heap.size sh S) := by
  obtain ⟨d, rfl⟩ : ∃ e, d = e + 1 := ⟨d - 1, by omega⟩
  refine Sp.of (by decide +kernel) rfl (Nat.le_of_ble_eq_true rfl) ?_
  unfold F_X6_advance at hF
  exact V_lv' (w_X6_advance_L0 ht G hd f _ hF) (v_all_c rfl v_all_n)
set_option maxRecDepth 100000 in
set_option maxHeartbeats 4000000 in
theorem s_X6_fail {l : Launch} {s0 : State} {D : va_G} {a0 : Array Value} {sh : List Sh} {f : Nat} {S : St} {t : Nat} {p1 : Int32} {p2 : Int32} (ht : isX6 sh t) {r : Int32 × St} (G : GC l s0 D a0) (hF : F_X6_fail sh f S t p1 p2 = some r) {d : Nat} (hd : 1 ≤ d) : Sp l s0 D d 0 0 mX6_fail (fun v h => v = some (.int r.1) ∧ h = wd s0.heap.size sh r.2) v_noX [.ref (s0.heap.size + t), .int p1, .int p2] (wd s0.heap.size sh S) := by
  obtain ⟨d, rfl⟩ : ∃ e, d = e + 1 := ⟨d - 1, by omega⟩
  refine Sp.of (by decide +kernel) rfl (Nat.le_of_ble_eq_true rfl) ?_
  unfold F_X6_fail at hF
  refine V_aload_n dX6_fail_0 rfl ?_
  refine V_iload_n dX6_fail_1 rfl ?_
  refine X_pI G dX6_fail_2 gX6_36 ht.1 rfl rfl rfl ?_
  obtain ⟨S1, qS1, hF⟩ := bnd_g hF
  refine V_eqS qS1 ?_
  refine V_aload_n dX6_fail_5 rfl ?_
  refine V_iload_n dX6_fail_6 rfl ?_
  refine X_pI G dX6_fail_7 gX6_39 ht.1 rfl rfl rfl ?_
  obtain ⟨S2, qS2, hF⟩ := bnd_g hF
  refine V_eqS qS2 ?_
  refine V_iconst (v := 0) dX6_fail_10 (by decide) ?_
  cases hF
  exact V_ireturn dX6_fail_11 rfl (by decide) ⟨rfl, rfl⟩
set_option maxRecDepth 100000 in
set_option maxHeartbeats 4000000 in
theorem s_X6_isName {l : Launch} {s0 : State} {D : va_G} {a0 : Array Value} {sh : List Sh} {f : Nat} {S : St} {t : Nat} (ht : isX6 sh t) {r : Int32} (G : GC l s0 D a0) (hF : F_X6_isName sh f S t = some r) {d : Nat} (hd : 1 ≤ d) : Sp l s0 D d 0 0 mX6_isName (fun v h => v = some (.int r) ∧ h = wd s0.heap.size sh S) v_noX [.ref (s0.heap.size + t)] (wd s0.heap.size sh S) := by
  obtain ⟨d, rfl⟩ : ∃ e, d = e + 1 := ⟨d - 1, by omega⟩
  refine Sp.of (by decide +kernel) rfl (Nat.le_of_ble_eq_true rfl) ?_
  unfold F_X6_isName at hF
  refine V_aload_n dX6_isName_0 rfl ?_
  refine X_gI G dX6_isName_1 fX6_52 ht.1 rfl ?_
  refine V_iconst (v := 1) dX6_isName_4 (by decide) ?_
  refine V_icmp_ne (tgt := 67) dX6_isName_5 (by decide) (fun c => ?_) (fun c => ?_)
  · replace hF := (if_neg c).symm.trans hF
    refine V_iconst (v := 0) dX6_isName_67 (by decide) ?_
    cases hF
    exact V_ireturn dX6_isName_68 rfl (by decide) ⟨rfl, rfl⟩
  · replace hF := (if_pos c).symm.trans hF
    refine V_aload_n dX6_isName_8 rfl ?_
    refine X_gJ G dX6_isName_9 fX6_79 ht.1 rfl ?_
    refine V_ldc2 dX6_isName_12 qX6_86 ?_
    refine V_lcmp dX6_isName_15 ?_
    refine V_if_eq (tgt := 67) dX6_isName_16 (by decide) (fun c => ?_) (fun c => ?_)
    · replace hF := (if_pos c).symm.trans hF
      refine V_iconst (v := 0) dX6_isName_67 (by decide) ?_
      cases hF
      exact V_ireturn dX6_isName_68 rfl (by decide) ⟨rfl, rfl⟩
    · replace hF := (if_neg c).symm.trans hF
      refine V_aload_n dX6_isName_19 rfl ?_
      refine X_gJ G dX6_isName_20 fX6_79 ht.1 rfl ?_
      refine V_ldc2 dX6_isName_23 qX6_91 ?_
      refine V_lcmp dX6_isName_26 ?_
      refine V_if_eq (tgt := 67) dX6_isName_27 (by decide) (fun c => ?_) (fun c => ?_)
      · replace hF := (if_pos c).symm.trans hF
        refine V_iconst (v := 0) dX6_isName_67 (by decide) ?_
        cases hF
        exact V_ireturn dX6_isName_68 rfl (by decide) ⟨rfl, rfl⟩
      · replace hF := (if_neg c).symm.trans hF
        refine V_aload_n dX6_isName_30 rfl ?_
        refine X_gJ G dX6_isName_31 fX6_79 ht.1 rfl ?_
        refine V_ldc2 dX6_isName_34 qX6_96 ?_
        refine V_lcmp dX6_isName_37 ?_
        refine V_if_eq (tgt := 67) dX6_isName_38 (by decide) (fun c => ?_) (fun c => ?_)
        · replace hF := (if_pos c).symm.trans hF
          refine V_iconst (v := 0) dX6_isName_67 (by decide) ?_
          cases hF
          exact V_ireturn dX6_isName_68 rfl (by decide) ⟨rfl, rfl⟩
        · replace hF := (if_neg c).symm.trans hF
          refine V_aload_n dX6_isName_41 rfl ?_
          refine X_gJ G dX6_isName_42 fX6_79 ht.1 rfl ?_
          refine V_ldc2 dX6_isName_45 qX6_98 ?_
          refine V_lcmp dX6_isName_48 ?_
          refine V_if_eq (tgt := 67) dX6_isName_49 (by decide) (fun c => ?_) (fun c => ?_)
          · replace hF := (if_pos c).symm.trans hF
            refine V_iconst (v := 0) dX6_isName_67 (by decide) ?_
            cases hF
            exact V_ireturn dX6_isName_68 rfl (by decide) ⟨rfl, rfl⟩
          · replace hF := (if_neg c).symm.trans hF
            refine V_aload_n dX6_isName_52 rfl ?_
            refine X_gJ G dX6_isName_53 fX6_79 ht.1 rfl ?_
            refine V_ldc2 dX6_isName_56 qX6_142 ?_
            refine V_lcmp dX6_isName_59 ?_
            refine V_if_eq (tgt := 67) dX6_isName_60 (by decide) (fun c => ?_) (fun c => ?_)
            · replace hF := (if_pos c).symm.trans hF
              refine V_iconst (v := 0) dX6_isName_67 (by decide) ?_
              cases hF
              exact V_ireturn dX6_isName_68 rfl (by decide) ⟨rfl, rfl⟩
            · replace hF := (if_neg c).symm.trans hF
              refine V_iconst (v := 1) dX6_isName_63 (by decide) ?_
              refine V_goto (tgt := 68) dX6_isName_64 (by decide) ?_
              cases hF
              exact V_ireturn dX6_isName_68 rfl (by decide) ⟨rfl, rfl⟩
set_option maxRecDepth 100000 in
set_option maxHeartbeats 4000000 in
theorem s_X6_readNewName {l : Launch} {s0 : State} {D : va_G} {a0 : Array Value} {sh : List Sh} {f : Nat} {S : St} {t : Nat} (ht : isX6 sh t) {r : Int32 × St} (G : GC l s0 D a0) (hF : F_X6_readNewName sh f S t = some r) {d : Nat} (hd : 4 ≤ d) : Sp l s0 D d 0 0 mX6_readNewName (fun v h => v = some (.int r.1) ∧ h = wd s0.heap.size sh r.2) v_noX [.ref (s0.heap.size + t)] (wd s0.heap.size sh S) := by
  obtain ⟨d, rfl⟩ : ∃ e, d = e + 1 := ⟨d - 1, by omega⟩
  refine Sp.of (by decide +kernel) rfl (Nat.le_of_ble_eq_true rfl) ?_
  unfold F_X6_readNewName at hF
  refine V_aload_n dX6_readNewName_0 rfl ?_
  obtain ⟨y1, hc, hF⟩ := bd hF
  refine V_callV G dX6_readNewName_1 kX6_120 (wd_at ht.1) ⟨by decide, rfl⟩ (s_X6_isName ht G hc (by omega)) rfl (Nat.le_of_ble_eq_true rfl) (fun _ _ _ q => q.elim) ?_
  rintro _ _ ⟨rfl, rfl⟩
  refine V_if_ne (tgt := 17) dX6_readNewName_4 (by decide) (fun c => ?_) (fun c => ?_)
  · replace hF := (if_neg c).symm.trans hF
    refine V_aload_n dX6_readNewName_17 rfl ?_
    obtain ⟨b2, hrb2, hF⟩ := bd hF
    obtain ⟨hb2, hF⟩ := gv_in hF
    replace hb2 := ckX0_ok hb2
    refine X_gR G dX6_readNewName_18 fX6_18 ht.1 rfl hrb2 ?_
    refine V_aload_n dX6_readNewName_21 rfl ?_
    refine X_gJ G dX6_readNewName_22 fX6_79 ht.1 rfl ?_
    obtain ⟨y3, hc, hF⟩ := bd hF
    refine V_callV G dX6_readNewName_25 kX6_123 (wd_at hb2.1) ⟨by decide, rfl⟩ (s_X0_findKind hb2 G hc (by omega)) rfl (Nat.le_of_ble_eq_true rfl) (fun _ _ _ q => q.elim) ?_
    rintro _ _ ⟨rfl, rfl⟩
    refine V_iconst (v := -1) dX6_readNewName_28 (by decide) ?_
    refine V_icmp_eq (tgt := 42) dX6_readNewName_29 (by decide) (fun c => ?_) (fun c => ?_)
    · replace hF := (if_pos c).symm.trans hF
      refine V_aload_n dX6_readNewName_42 rfl ?_
      obtain ⟨b4, hrb4, hF⟩ := bd hF
      obtain ⟨hb4, hF⟩ := gv_in hF
      replace hb4 := ckX0_ok hb4
      refine X_gR G dX6_readNewName_43 fX6_18 ht.1 rfl hrb4 ?_
      refine V_aload_n dX6_readNewName_46 rfl ?_
      refine X_gJ G dX6_readNewName_47 fX6_79 ht.1 rfl ?_
      obtain ⟨y5, hc, hF⟩ := bd hF
      refine V_callV G dX6_readNewName_50 kX6_127 (wd_at hb4.1) ⟨by decide, rfl⟩ (s_X0_addKind hb4 G hc (by omega)) rfl (Nat.le_of_ble_eq_true rfl) (fun _ _ _ q => q.elim) ?_
      rintro _ _ ⟨rfl, rfl⟩
      refine V_if_ne (tgt := 67) dX6_readNewName_53 (by decide) (fun c => ?_) (fun c => ?_)
      · replace hF := (if_neg c).symm.trans hF
        refine V_aload_n dX6_readNewName_67 rfl ?_
        obtain ⟨y6, hc, hF⟩ := bd hF
        refine V_callV G dX6_readNewName_68 kX6_45 (wd_at ht.1) ⟨by decide, rfl⟩ (s_X6_advance ht G hc (by omega)) rfl (Nat.le_of_ble_eq_true rfl) (fun _ _ _ q => q.elim) ?_
        rintro _ _ ⟨rfl, rfl⟩
        refine V_iconst (v := 1) dX6_readNewName_71 (by decide) ?_
        cases hF
        exact V_ireturn dX6_readNewName_72 rfl (by decide) ⟨rfl, rfl⟩
      · replace hF := (if_pos c).symm.trans hF
        refine V_aload_n dX6_readNewName_56 rfl ?_
        refine V_bipush (v := 6) dX6_readNewName_57 (by decide) ?_
        refine V_aload_n dX6_readNewName_59 rfl ?_
        refine X_gI G dX6_readNewName_60 fX6_55 ht.1 rfl ?_
        obtain ⟨y7, hc, hF⟩ := bd hF
        refine V_callV G dX6_readNewName_63 kX6_58 (wd_at ht.1) ⟨by decide, rfl⟩ (s_X6_fail ht G hc (by omega)) rfl (Nat.le_of_ble_eq_true rfl) (fun _ _ _ q => q.elim) ?_
        rintro _ _ ⟨rfl, rfl⟩
        obtain ⟨hz, hF⟩ := gv_out hF
        cases hF
        exact V_ireturn dX6_readNewName_66 rfl (nb_n hz) ⟨rfl, rfl⟩
    · replace hF := (if_neg c).symm.trans hF
      refine V_aload_n dX6_readNewName_32 rfl ?_
      refine V_iconst (v := 3) dX6_readNewName_33 (by decide) ?_
      refine V_aload_n dX6_readNewName_34 rfl ?_
      refine X_gI G dX6_readNewName_35 fX6_55 ht.1 rfl ?_
      obtain ⟨y8, hc, hF⟩ := bd hF
      refine V_callV G dX6_readNewName_38 kX6_58 (wd_at ht.1) ⟨by decide, rfl⟩ (s_X6_fail ht G hc (by omega)) rfl (Nat.le_of_ble_eq_true rfl) (fun _ _ _ q => q.elim) ?_
      rintro _ _ ⟨rfl, rfl⟩
      obtain ⟨hz, hF⟩ := gv_out hF
      cases hF
      exact V_ireturn dX6_readNewName_41 rfl (nb_n hz) ⟨rfl, rfl⟩
  · replace hF := (if_pos c).symm.trans hF
    refine V_aload_n dX6_readNewName_7 rfl ?_
    refine V_iconst (v := 1) dX6_readNewName_8 (by decide) ?_
    refine V_aload_n dX6_readNewName_9 rfl ?_
    refine X_gI G dX6_readNewName_10 fX6_55 ht.1 rfl ?_
    obtain ⟨y9, hc, hF⟩ := bd hF
    refine V_callV G dX6_readNewName_13 kX6_58 (wd_at ht.1) ⟨by decide, rfl⟩ (s_X6_fail ht G hc (by omega)) rfl (Nat.le_of_ble_eq_true rfl) (fun _ _ _ q => q.elim) ?_
    rintro _ _ ⟨rfl, rfl⟩
    obtain ⟨hz, hF⟩ := gv_out hF
    cases hF
    exact V_ireturn dX6_readNewName_16 rfl (nb_n hz) ⟨rfl, rfl⟩
set_option maxRecDepth 100000 in
set_option maxHeartbeats 4000000 in
theorem s_X6_readHeavy {l : Launch} {s0 : State} {D : va_G} {a0 : Array Value} {sh : List Sh} {f : Nat} {S : St} {t : Nat} (ht : isX6 sh t) {r : Int32 × St} (G : GC l s0 D a0) (hF : F_X6_readHeavy sh f S t = some r) {d : Nat} (hd : 2 ≤ d) : Sp l s0 D d 0 0 mX6_readHeavy (fun v h => v = some (.int r.1) ∧ h = wd s0.heap.size sh r.2) v_noX [.ref (s0.heap.size + t)] (wd s0.heap.size sh S) := by
  obtain ⟨d, rfl⟩ : ∃ e, d = e + 1 := ⟨d - 1, by omega⟩
  refine Sp.of (by decide +kernel) rfl (Nat.le_of_ble_eq_true rfl) ?_
  unfold F_X6_readHeavy at hF
  refine V_aload_n dX6_readHeavy_0 rfl ?_
  refine X_gI G dX6_readHeavy_1 fX6_52 ht.1 rfl ?_
  refine V_iconst (v := 2) dX6_readHeavy_4 (by decide) ?_
  refine V_icmp_eq (tgt := 18) dX6_readHeavy_5 (by decide) (fun c => ?_) (fun c => ?_)
  · replace hF := (if_pos c).symm.trans hF
    refine V_aload_n dX6_readHeavy_18 rfl ?_
    refine X_gI G dX6_readHeavy_19 fX6_83 ht.1 rfl ?_
    refine V_iconst (v := 1) dX6_readHeavy_22 (by decide) ?_
    refine V_icmp_lt (tgt := 35) dX6_readHeavy_23 (by decide) (fun c => ?_) (fun c => ?_)
    · replace hF := (if_pos c).symm.trans hF
      refine V_aload_n dX6_readHeavy_35 rfl ?_
      refine V_iconst (v := 4) dX6_readHeavy_36 (by decide) ?_
      refine V_aload_n dX6_readHeavy_37 rfl ?_
      refine X_gI G dX6_readHeavy_38 fX6_55 ht.1 rfl ?_
      obtain ⟨y1, hc, hF⟩ := bd hF
      refine V_callV G dX6_readHeavy_41 kX6_58 (wd_at ht.1) ⟨by decide, rfl⟩ (s_X6_fail ht G hc (by omega)) rfl (Nat.le_of_ble_eq_true rfl) (fun _ _ _ q => q.elim) ?_
      rintro _ _ ⟨rfl, rfl⟩
      refine V_if_eq (tgt := 51) dX6_readHeavy_44 (by decide) (fun c => ?_) (fun c => ?_)
      · replace hF := (if_pos c).symm.trans hF
        refine V_iconst (v := 0) dX6_readHeavy_51 (by decide) ?_
        cases hF
        exact V_ireturn dX6_readHeavy_52 rfl (by decide) ⟨rfl, rfl⟩
      · replace hF := (if_neg c).symm.trans hF
        refine V_iconst (v := 1) dX6_readHeavy_47 (by decide) ?_
        refine V_goto (tgt := 52) dX6_readHeavy_48 (by decide) ?_
        cases hF
        exact V_ireturn dX6_readHeavy_52 rfl (by decide) ⟨rfl, rfl⟩
    · replace hF := (if_neg c).symm.trans hF
      refine V_aload_n dX6_readHeavy_26 rfl ?_
      refine X_gI G dX6_readHeavy_27 fX6_83 ht.1 rfl ?_
      refine V_bipush (v := 99) dX6_readHeavy_30 (by decide) ?_
      refine V_icmp_le (tgt := 47) dX6_readHeavy_32 (by decide) (fun c => ?_) (fun c => ?_)
      · replace hF := (if_pos c).symm.trans hF
        refine V_iconst (v := 1) dX6_readHeavy_47 (by decide) ?_
        refine V_goto (tgt := 52) dX6_readHeavy_48 (by decide) ?_
        cases hF
        exact V_ireturn dX6_readHeavy_52 rfl (by decide) ⟨rfl, rfl⟩
      · replace hF := (if_neg c).symm.trans hF
        refine V_aload_n dX6_readHeavy_35 rfl ?_
        refine V_iconst (v := 4) dX6_readHeavy_36 (by decide) ?_
        refine V_aload_n dX6_readHeavy_37 rfl ?_
        refine X_gI G dX6_readHeavy_38 fX6_55 ht.1 rfl ?_
        obtain ⟨y2, hc, hF⟩ := bd hF
        refine V_callV G dX6_readHeavy_41 kX6_58 (wd_at ht.1) ⟨by decide, rfl⟩ (s_X6_fail ht G hc (by omega)) rfl (Nat.le_of_ble_eq_true rfl) (fun _ _ _ q => q.elim) ?_
        rintro _ _ ⟨rfl, rfl⟩
        refine V_if_eq (tgt := 51) dX6_readHeavy_44 (by decide) (fun c => ?_) (fun c => ?_)
        · replace hF := (if_pos c).symm.trans hF
          refine V_iconst (v := 0) dX6_readHeavy_51 (by decide) ?_
          cases hF
          exact V_ireturn dX6_readHeavy_52 rfl (by decide) ⟨rfl, rfl⟩
        · replace hF := (if_neg c).symm.trans hF
          refine V_iconst (v := 1) dX6_readHeavy_47 (by decide) ?_
          refine V_goto (tgt := 52) dX6_readHeavy_48 (by decide) ?_
          cases hF
          exact V_ireturn dX6_readHeavy_52 rfl (by decide) ⟨rfl, rfl⟩
  · replace hF := (if_neg c).symm.trans hF
    refine V_aload_n dX6_readHeavy_8 rfl ?_
    refine V_iconst (v := 1) dX6_readHeavy_9 (by decide) ?_
    refine V_aload_n dX6_readHeavy_10 rfl ?_
    refine X_gI G dX6_readHeavy_11 fX6_55 ht.1 rfl ?_
    obtain ⟨y3, hc, hF⟩ := bd hF
    refine V_callV G dX6_readHeavy_14 kX6_58 (wd_at ht.1) ⟨by decide, rfl⟩ (s_X6_fail ht G hc (by omega)) rfl (Nat.le_of_ble_eq_true rfl) (fun _ _ _ q => q.elim) ?_
    rintro _ _ ⟨rfl, rfl⟩
    obtain ⟨hz, hF⟩ := gv_out hF
    cases hF
    exact V_ireturn dX6_readHeavy_17 rfl (nb_n hz) ⟨rfl, rfl⟩

