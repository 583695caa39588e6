set_option maxRecDepth 100000 in
set_option maxHeartbeats 4000000 in
theorem s_X4_inRow {l : Launch} {s0 : State} {D : va_G} {a0 : Array Value} {sh : List Sh} {f : Nat} {S : St} {p0 : Int32} {p1 : Int32} {r : Int64} (G : GC l s0 D a0) (hF : F_X4_inRow sh f S p0 p1 = some r) {d : Nat} (hd : 1 ≤ d) : Sp l s0 D d 0 0 mX4_inRow (fun v h => v = some (.long r) ∧ h = wd s0.heap.size sh S) v_noX [.int p0, .int p1] (wd s0.heap.size sh S) := by
  obtain ⟨d, rfl⟩ : ∃ e, d = e + 1 := ⟨d - 1, by omega⟩
  refine Sp.of (by decide +kernel) rfl (Nat.le_of_ble_eq_true rfl) ?_
  unfold F_X4_inRow at hF
  refine V_iload_n dX4_inRow_0 rfl ?_
  refine V_i2l dX4_inRow_1 ?_
  refine V_iconst (v := 4) dX4_inRow_2 (by decide) ?_
  refine V_bipush (v := 11) dX4_inRow_3 (by decide) ?_
  refine V_iload_n dX4_inRow_5 rfl ?_
  refine V_isub dX4_inRow_6 ?_
  refine V_imul dX4_inRow_7 ?_
  refine V_lshl dX4_inRow_8 ?_
  cases hF
  exact V_lreturn dX4_inRow_9 rfl ⟨rfl, rfl⟩
set_option maxRecDepth 100000 in
set_option maxHeartbeats 4000000 in
theorem w_X5_linksOf_L11 {l : Launch} {s0 : State} {D : va_G} {a0 : Array Value} {sh : List Sh} {f : Nat} {S : St} {t : Nat} {p1 : Int64} (ht : isX5 sh t) {r : Int32} {d : Nat} (G : GC l s0 D a0) (hd : 2 ≤ d + 1) : ∀ (n : Nat) (l3 : Int32) (l4 : Int32), F_X5_linksOf_L11 sh f S t p1 n l3 l4 = some r → V l s0 D (d + 1) 0 0 mX5_linksOf (fun v h => v = some (.int r) ∧ h = wd s0.heap.size sh S) v_noX 11 [(0, .ref (s0.heap.size + t)), (1, .long p1), (3, .int l3), (4, .int l4)] [] (wd s0.heap.size sh S) := by
  intro n
  induction n with
  | zero => intro l3 l4 hF; cases hF
  | succ n ih =>
    intro l3 l4 hF
    unfold F_X5_linksOf_L11 at hF
    refine V_iload dX5_linksOf_11 rfl ?_
    refine V_aload_n dX5_linksOf_13 rfl ?_
    refine X_gC G dX5_linksOf_14 fX5_12 ht.1 rfl ?_
    refine X_gI G dX5_linksOf_17 fX5_63 ht.2.1.1 rfl ?_
    refine V_icmp_ge (tgt := 47) dX5_linksOf_20 (by decide) (fun c => ?_) (fun c => ?_)
    · replace hF := (if_pos c).symm.trans hF
      refine V_iload_n dX5_linksOf_47 rfl ?_
      cases hF
      exact V_ireturn dX5_linksOf_48 rfl rfl ⟨rfl, rfl⟩
    · replace hF := (if_neg c).symm.trans hF
      refine V_iload_n dX5_linksOf_23 rfl ?_
      refine V_aload_n dX5_linksOf_24 rfl ?_
      refine X_gC G dX5_linksOf_25 fX5_12 ht.1 rfl ?_
      refine V_iload dX5_linksOf_28 rfl ?_
      refine V_lload_n dX5_linksOf_30 rfl ?_
      refine V_iload dX5_linksOf_31 rfl ?_
      obtain ⟨y1, hc, hF⟩ := bd hF
      refine V_callS dX5_linksOf_33 kX5_116 (s_X4_partnerIn G hc (by omega)) rfl (Nat.le_of_ble_eq_true rfl) (fun _ _ _ q => q.elim) ?_
      rintro _ _ ⟨rfl, rfl⟩
      obtain ⟨y2, hc, hF⟩ := bd hF
      refine V_callV G dX5_linksOf_36 kX5_132 (wd_at ht.2.1.1) ⟨by decide, rfl⟩ (s_X4_link ht.2.1 G hc (by omega)) rfl (Nat.le_of_ble_eq_true rfl) (fun _ _ _ q => q.elim) ?_
      rintro _ _ ⟨rfl, rfl⟩
      refine V_ior dX5_linksOf_39 ?_
      obtain ⟨x3, qx3, hF⟩ := bnd_g hF
      refine B_istore_n qx3 dX5_linksOf_40 (by decide) ?_
      obtain ⟨x4, qx4, hF⟩ := bnd_g hF
      refine B_iinc (v := 1) qx4 dX5_linksOf_41 rfl (by decide) (by decide) ?_
      refine V_goto (tgt := 11) dX5_linksOf_44 (by decide) ?_
      exact V_lv' (ih _ _ hF) (v_all_c rfl (v_all_c rfl (v_all_c rfl (v_all_c rfl v_all_n))))
set_option maxRecDepth 100000 in
set_option maxHeartbeats 4000000 in
theorem s_X5_linksOf {l : Launch} {s0 : State} {D : va_G} {a0 : Array Value} {sh : List Sh} {f : Nat} {S : St} {t : Nat} {p1 : Int64} (ht : isX5 sh t) {r : Int32} (G : GC l s0 D a0) (hF : F_X5_linksOf sh f S t p1 = some r) {d : Nat} (hd : 2 ≤ d) : Sp l s0 D d 0 0 mX5_linksOf (fun v h => v = some (.int r) ∧ h = wd s0.heap.size sh S) v_noX [.ref (s0.heap.size + t), .long p1] (wd s0.heap.size sh S) := by
  obtain ⟨d, rfl⟩ : ∃ e, d = e + 1 := ⟨d - 1, by omega⟩
  refine Sp.of (by decide +kernel) rfl (Nat.le_of_ble_eq_true rfl) ?_
  unfold F_X5_linksOf at hF
  refine V_iconst (v := 0) dX5_linksOf_0 (by decide) ?_
  refine V_istore_n dX5_linksOf_1 (by decide) ?_
  refine V_aload_n dX5_linksOf_2 rfl ?_
  refine X_gC G dX5_linksOf_3 fX5_12 ht.1 rfl ?_
  refine X_gI G dX5_linksOf_6 fX5_129 ht.2.1.1 rfl ?_
  obtain ⟨x1, qx1, hF⟩ := bnd_g hF
  refine B_istore qx1 dX5_linksOf_9 (by decide) ?_
  exact V_lv' (w_X5_linksOf_L11 ht G hd f _ _ hF) (v_all_c rfl (v_all_c rfl (v_all_c rfl (v_all_c rfl v_all_n))))
set_option maxRecDepth 100000 in
set_option maxHeartbeats 4000000 in
theorem w_X5_tally_L6 {l : Launch} {s0 : State} {D : va_G} {a0 : Array Value} {sh : List Sh} {f : Nat} {t : Nat} {p1 : Int64} {p3 : Int32} (ht : isX5 sh t) {r : Int32 × St} {d : Nat} (G : GC l s0 D a0) (hd : 2 ≤ d + 1) : ∀ (n : Nat) (S : St) (l4 : Int32) (l5 : Int32), F_X5_tally_L6 sh f t p1 p3 n S l4 l5 = some r → V l s0 D (d + 1) 0 0 mX5_tally (fun v h => v = some (.int r.1) ∧ h = wd s0.heap.size sh r.2) v_noX 6 [(0, .ref (s0.heap.size + t)), (1, .long p1), (3, .int p3), (4, .int l4), (5, .int l5)] [] (wd s0.heap.size sh S) := by
  intro n
  induction n with
  | zero => intro S l4 l5 hF; cases hF
  | succ n ih =>
    intro S l4 l5 hF
    unfold F_X5_tally_L6 at hF
    refine V_iload dX5_tally_6 rfl ?_
    refine V_aload_n dX5_tally_8 rfl ?_
    refine X_gC G dX5_tally_9 fX5_12 ht.1 rfl ?_
    refine X_gI G dX5_tally_12 fX5_63 ht.2.1.1 rfl ?_
    refine V_icmp_ge (tgt := 147) dX5_tally_15 (by decide) (fun c => ?_) (fun c => ?_)
    · replace hF := (if_pos c).symm.trans hF
      refine V_iload dX5_tally_147 rfl ?_
      cases hF
      exact V_ireturn dX5_tally_149 rfl rfl ⟨rfl, rfl⟩
    · replace hF := (if_neg c).symm.trans hF
      refine V_lload_n dX5_tally_18 rfl ?_
      refine V_iload dX5_tally_19 rfl ?_
      obtain ⟨y1, hc, hF⟩ := bd hF
      refine V_callS dX5_tally_21 kX5_116 (s_X4_partnerIn G hc (by omega)) rfl (Nat.le_of_ble_eq_true rfl) (fun _ _ _ q => q.elim) ?_
      rintro _ _ ⟨rfl, rfl⟩
      refine V_istore dX5_tally_24 (by decide) ?_
      refine V_iload dX5_tally_26 rfl ?_
      refine V_iload dX5_tally_28 rfl ?_
      refine V_icmp_le (tgt := 141) dX5_tally_30 (by decide) (fun c => ?_) (fun c => ?_)
      · replace hF := (if_pos c).symm.trans hF
        obtain ⟨x2, qx2, hF⟩ := bnd_g hF
        refine B_iinc (v := 1) qx2 dX5_tally_141 rfl (by decide) (by decide) ?_
        refine V_goto (tgt := 6) dX5_tally_144 (by decide) ?_
        exact V_lv' (ih _ _ _ hF) (v_all_c rfl (v_all_c rfl (v_all_c rfl (v_all_c rfl (v_all_c rfl v_all_n)))))
      · replace hF := (if_neg c).symm.trans hF
        refine V_aload_n dX5_tally_33 rfl ?_
        refine X_gC G dX5_tally_34 fX5_12 ht.1 rfl ?_
        refine V_aload_n dX5_tally_37 rfl ?_
        refine X_gC G dX5_tally_38 fX5_12 ht.1 rfl ?_
        refine X_gC G dX5_tally_41 fX5_119 ht.2.1.1 rfl ?_
        refine V_iload dX5_tally_44 rfl ?_
        obtain ⟨hz, hF⟩ := gv_out hF
        refine X_iald dX5_tally_46 ht.2.1.2.2.2.1 hz ?_
        refine V_iload_n dX5_tally_47 rfl ?_
        obtain ⟨y3, hc, hF⟩ := bd hF
        refine V_callV G dX5_tally_48 kX5_122 (wd_at ht.2.1.1) ⟨by decide, rfl⟩ (s_X4_swapped ht.2.1 G hc (by omega)) rfl (Nat.le_of_ble_eq_true rfl) (fun _ _ _ q => q.elim) ?_
        rintro _ _ ⟨rfl, rfl⟩
        refine V_istore dX5_tally_51 (by decide) ?_
        refine V_aload_n dX5_tally_53 rfl ?_
        refine X_gC G dX5_tally_54 fX5_12 ht.1 rfl ?_
        refine V_aload_n dX5_tally_57 rfl ?_
        refine X_gC G dX5_tally_58 fX5_12 ht.1 rfl ?_
        refine X_gC G dX5_tally_61 fX5_119 ht.2.1.1 rfl ?_
        refine V_iload dX5_tally_64 rfl ?_
        obtain ⟨hz, hF⟩ := gv_out hF
        refine X_iald dX5_tally_66 ht.2.1.2.2.2.1 hz ?_
        refine V_iload_n dX5_tally_67 rfl ?_
        obtain ⟨y4, hc, hF⟩ := bd hF
        refine V_callV G dX5_tally_68 kX5_122 (wd_at ht.2.1.1) ⟨by decide, rfl⟩ (s_X4_swapped ht.2.1 G hc (by omega)) rfl (Nat.le_of_ble_eq_true rfl) (fun _ _ _ q => q.elim) ?_
        rintro _ _ ⟨rfl, rfl⟩
        refine V_istore dX5_tally_71 (by decide) ?_
        refine V_aload_n dX5_tally_73 rfl ?_
        refine X_gC G dX5_tally_74 fX5_18 ht.1 rfl ?_
        refine V_iload dX5_tally_77 rfl ?_
        refine V_bipush (v := 12) dX5_tally_79 (by decide) ?_
        refine V_imul dX5_tally_81 ?_
        refine V_iload dX5_tally_82 rfl ?_
        refine V_iadd dX5_tally_84 ?_
        refine V_dup2 dX5_tally_85 rfl rfl ?_
        obtain ⟨hz, hF⟩ := gv_out hF
        refine X_iald dX5_tally_86 ht.2.2 hz ?_
        refine V_iconst (v := 1) dX5_tally_87 (by decide) ?_
        refine V_iadd dX5_tally_88 ?_
        obtain ⟨hz, hF⟩ := gv_out hF
        refine X_iast dX5_tally_89 ht.2.2 hz ?_
        obtain ⟨S5, qS5, hF⟩ := bnd_g hF
        refine V_eqS qS5 ?_
        refine V_iload dX5_tally_90 rfl ?_
        refine V_aload_n dX5_tally_92 rfl ?_
        refine X_gC G dX5_tally_93 fX5_18 ht.1 rfl ?_
        refine V_iload dX5_tally_96 rfl ?_
        refine V_bipush (v := 12) dX5_tally_98 (by decide) ?_
        refine V_imul dX5_tally_100 ?_
        refine V_iload dX5_tally_101 rfl ?_
        refine V_iadd dX5_tally_103 ?_
        obtain ⟨hz, hF⟩ := gv_out hF
        refine X_iald dX5_tally_104 ht.2.2 hz ?_
        refine V_imul dX5_tally_105 ?_
        obtain ⟨x6, qx6, hF⟩ := bnd_g hF
        refine B_istore qx6 dX5_tally_106 (by decide) ?_
        refine V_iload dX5_tally_108 rfl ?_
        refine V_iload dX5_tally_110 rfl ?_
        refine V_icmp_ne (tgt := 124) dX5_tally_112 (by decide) (fun c => ?_) (fun c => ?_)
        · replace hF := (if_neg c).symm.trans hF
          refine V_aload_n dX5_tally_124 rfl ?_
          refine X_gC G dX5_tally_125 fX5_18 ht.1 rfl ?_
          refine V_iload dX5_tally_128 rfl ?_
          refine V_bipush (v := 12) dX5_tally_130 (by decide) ?_
          refine V_imul dX5_tally_132 ?_
          refine V_iload dX5_tally_133 rfl ?_
          refine V_iadd dX5_tally_135 ?_
          refine V_dup2 dX5_tally_136 rfl rfl ?_
          obtain ⟨hz, hF⟩ := gv_out hF
          refine X_iald dX5_tally_137 ht.2.2 hz ?_
          refine V_iconst (v := 1) dX5_tally_138 (by decide) ?_
          refine V_iadd dX5_tally_139 ?_
          obtain ⟨hz, hF⟩ := gv_out hF
          refine X_iast dX5_tally_140 ht.2.2 hz ?_
          obtain ⟨S7, qS7, hF⟩ := bnd_g hF
          refine V_eqS qS7 ?_
          obtain ⟨x8, qx8, hF⟩ := bnd_g hF
          refine B_iinc (v := 1) qx8 dX5_tally_141 rfl (by decide) (by decide) ?_
          refine V_goto (tgt := 6) dX5_tally_144 (by decide) ?_
          exact V_lv' (ih _ _ _ hF) (v_all_c rfl (v_all_c rfl (v_all_c rfl (v_all_c rfl (v_all_c rfl v_all_n)))))
        · replace hF := (if_pos c).symm.trans hF
          refine V_iload dX5_tally_115 rfl ?_
          refine V_iconst (v := 2) dX5_tally_117 (by decide) ?_
          refine V_imul dX5_tally_118 ?_
          obtain ⟨x9, qx9, hF⟩ := bnd_g hF
          refine B_istore qx9 dX5_tally_119 (by decide) ?_
          refine V_goto (tgt := 141) dX5_tally_121 (by decide) ?_
          obtain ⟨x10, qx10, hF⟩ := bnd_g hF
          refine B_iinc (v := 1) qx10 dX5_tally_141 rfl (by decide) (by decide) ?_
          refine V_goto (tgt := 6) dX5_tally_144 (by decide) ?_
          exact V_lv' (ih _ _ _ hF) (v_all_c rfl (v_all_c rfl (v_all_c rfl (v_all_c rfl (v_all_c rfl v_all_n)))))
set_option maxRecDepth 100000 in
set_option maxHeartbeats 4000000 in
theorem s_X5_tally {l : Launch} {s0 : State} {D : va_G} {a0 : Array Value} {sh : List Sh} {f : Nat} {S : St} {t : Nat} {p1 : Int64} {p3 : Int32} (ht : isX5 sh t) {r : Int32 × St} (G : GC l s0 D a0) (hF : F_X5_tally sh f S t p1 p3 = some r) {d : Nat} (hd : 2 ≤ d) : Sp l s0 D d 0 0 mX5_tally (fun v h => v = some (.int r.1) ∧ h = wd s0.heap.size sh r.2) v_noX [.ref (s0.heap.size + t), .long p1, .int p3] (wd s0.heap.size sh S) := by
  obtain ⟨d, rfl⟩ : ∃ e, d = e + 1 := ⟨d - 1, by omega⟩
  refine Sp.of (by decide +kernel) rfl (Nat.le_of_ble_eq_true rfl) ?_
  unfold F_X5_tally at hF
  refine V_iconst (v := 1) dX5_tally_0 (by decide) ?_
  refine V_istore dX5_tally_1 (by decide) ?_
  refine V_iconst (v := 0) dX5_tally_3 (by decide) ?_
  refine V_istore dX5_tally_4 (by decide) ?_
  exact V_lv' (w_X5_tally_L6 ht G hd f _ _ _ hF) (v_all_c rfl (v_all_c rfl (v_all_c rfl (v_all_c rfl (v_all_c rfl v_all_n)))))
set_option maxRecDepth 100000 in
set_option maxHeartbeats 4000000 in
theorem w_X5_firstTallied_L4 {l : Launch} {s0 : State} {D : va_G} {a0 : Array Value} {sh : List Sh} {f : Nat} {S : St} {t : Nat} {p1 : Int32} {p2 : Int32} (ht : isX5 sh t) {r : Int32} {d : Nat} (G : GC l s0 D a0) (hd : 1 ≤ d + 1) : ∀ (n : Nat) (l3 : Int32), F_X5_firstTallied_L4 sh f S t p1 p2 n l3 = some r → V l s0 D (d + 1) 0 0 mX5_firstTallied (fun v h => v = some (.int r) ∧ h = wd s0.heap.size sh S) v_noX 4 [(0, .ref (s0.heap.size + t)), (1, .int p1), (2, .int p2), (3, .int l3)] [] (wd s0.heap.size sh S) := by
  intro n
  induction n with
  | zero => intro l3 hF; cases hF
  | succ n ih =>
    intro l3 hF
    unfold F_X5_firstTallied_L4 at hF
    refine V_iload_n dX5_firstTallied_4 rfl ?_
    refine V_aload_n dX5_firstTallied_5 rfl ?_
    refine X_gC G dX5_firstTallied_6 fX5_12 ht.1 rfl ?_
    refine X_gI G dX5_firstTallied_9 fX5_63 ht.2.1.1 rfl ?_
    refine V_icmp_ge (tgt := 61) dX5_firstTallied_12 (by decide) (fun c => ?_) (fun c => ?_)
    · replace hF := (if_pos c).symm.trans hF
      refine V_iconst (v := -1) dX5_firstTallied_61 (by decide) ?_
      cases hF
      exact V_ireturn dX5_firstTallied_62 rfl rfl ⟨rfl, rfl⟩
    · replace hF := (if_neg c).symm.trans hF
      refine V_iload_n dX5_firstTallied_15 rfl ?_
      refine V_iload_n dX5_firstTallied_16 rfl ?_
      refine V_ishr dX5_firstTallied_17 ?_
      refine V_iconst (v := 1) dX5_firstTallied_18 (by decide) ?_
      refine V_iand dX5_firstTallied_19 ?_
      refine V_if_eq (tgt := 55) dX5_firstTallied_20 (by decide) (fun c => ?_) (fun c => ?_)
      · replace hF := (if_pos c).symm.trans hF
        obtain ⟨x1, qx1, hF⟩ := bnd_g hF
        refine B_iinc (v := 1) qx1 dX5_firstTallied_55 rfl (by decide) (by decide) ?_
        refine V_goto (tgt := 4) dX5_firstTallied_58 (by decide) ?_
        exact V_lv' (ih _ hF) (v_all_c rfl (v_all_c rfl (v_all_c rfl (v_all_c rfl v_all_n))))
      · replace hF := (if_neg c).symm.trans hF
        refine V_aload_n dX5_firstTallied_23 rfl ?_
        refine X_gC G dX5_firstTallied_24 fX5_18 ht.1 rfl ?_
        refine V_aload_n dX5_firstTallied_27 rfl ?_
        refine X_gC G dX5_firstTallied_28 fX5_12 ht.1 rfl ?_
        refine X_gC G dX5_firstTallied_31 fX5_119 ht.2.1.1 rfl ?_
        refine V_iload_n dX5_firstTallied_34 rfl ?_
        obtain ⟨hz, hF⟩ := gv_out hF
        refine X_iald dX5_firstTallied_35 ht.2.1.2.2.2.1 hz ?_
        refine V_bipush (v := 12) dX5_firstTallied_36 (by decide) ?_
        refine V_imul dX5_firstTallied_38 ?_
        refine V_aload_n dX5_firstTallied_39 rfl ?_
        refine X_gC G dX5_firstTallied_40 fX5_12 ht.1 rfl ?_
        refine X_gC G dX5_firstTallied_43 fX5_119 ht.2.1.1 rfl ?_
        refine V_iload_n dX5_firstTallied_46 rfl ?_
        obtain ⟨hz, hF⟩ := gv_out hF
        refine X_iald dX5_firstTallied_47 ht.2.1.2.2.2.1 hz ?_
        refine V_iadd dX5_firstTallied_48 ?_
        obtain ⟨hz, hF⟩ := gv_out hF
        refine X_iald dX5_firstTallied_49 ht.2.2 hz ?_
        refine V_if_le (tgt := 55) dX5_firstTallied_50 (by decide) (fun c => ?_) (fun c => ?_)
        · replace hF := (if_pos c).symm.trans hF
          obtain ⟨x2, qx2, hF⟩ := bnd_g hF
          refine B_iinc (v := 1) qx2 dX5_firstTallied_55 rfl (by decide) (by decide) ?_
          refine V_goto (tgt := 4) dX5_firstTallied_58 (by decide) ?_
          exact V_lv' (ih _ hF) (v_all_c rfl (v_all_c rfl (v_all_c rfl (v_all_c rfl v_all_n))))
        · replace hF := (if_neg c).symm.trans hF
          refine V_iload_n dX5_firstTallied_53 rfl ?_
          cases hF
          exact V_ireturn dX5_firstTallied_54 rfl rfl ⟨rfl, rfl⟩
set_option maxRecDepth 100000 in
set_option maxHeartbeats 4000000 in
theorem s_X5_firstTallied {l : Launch} {s0 : State} {D : va_G} {a0 : Array Value} {sh : List Sh} {f : Nat} {S : St} {t : Nat} {p1 : Int32} {p2 : Int32} (ht : isX5 sh t) {r : Int32} (G : GC l s0 D a0) (hF : F_X5_firstTallied sh f S t p1 p2 = some r) {d : Nat} (hd : 1 ≤ d) : Sp l s0 D d 0 0 mX5_firstTallied (fun v h => v = some (.int r) ∧ h = wd s0.heap.size sh S) v_noX [.ref (s0.heap.size + t), .int p1, .int p2] (wd s0.heap.size sh S) := by
  obtain ⟨d, rfl⟩ : ∃ e, d = e + 1 := ⟨d - 1, by omega⟩
  refine Sp.of (by decide +kernel) rfl (Nat.le_of_ble_eq_true rfl) ?_
  unfold F_X5_firstTallied at hF
  refine V_iload_n dX5_firstTallied_0 rfl ?_
  refine V_iconst (v := 1) dX5_firstTallied_1 (by decide) ?_
  refine V_iadd dX5_firstTallied_2 ?_
  obtain ⟨x1, qx1, hF⟩ := bnd_g hF
  refine B_istore_n qx1 dX5_firstTallied_3 (by decide) ?_
  exact V_lv' (w_X5_firstTallied_L4 ht G hd f _ hF) (v_all_c rfl (v_all_c rfl (v_all_c rfl (v_all_c rfl v_all_n))))
set_option maxRecDepth 100000 in
set_option maxHeartbeats 4000000 in
theorem w_X5_leastTallied_L118 {l : Launch} {s0 : State} {D : va_G} {a0 : Array Value} {sh : List Sh} {f : Nat} {t : Nat} (ht : isX5 sh t) {r : Int64 × St} {d : Nat} (G : GC l s0 D a0) (hd : 2 ≤ d + 1) {k13 : St → Int32 → Int64 → Int32 → Option (Int64 × St)} (hk13 : ∀ (S : St) (l1 : Int32) (l2 : Int64) (l4 : Int32), k13 S l1 l2 l4 = some r → V l s0 D (d + 1) 0 0 mX5_leastTallied (fun v h => v = some (.long r.1) ∧ h = wd s0.heap.size sh r.2) v_noX 13 [(0, .ref (s0.heap.size + t)), (1, .int l1), (2, .long l2), (4, .int l4)] [] (wd s0.heap.size sh S)) : ∀ (S : St) (l1 : Int32) (l2 : Int64) (l4 : Int32) (l5 : Int32), F_X5_leastTallied_L118 sh f t k13 S l1 l2 l4 l5 = some r → V l s0 D (d + 1) 0 0 mX5_leastTallied (fun v h => v = some (.long r.1) ∧ h = wd s0.heap.size sh r.2) v_noX 118 [(0, .ref (s0.heap.size + t)), (1, .int l1), (2, .long l2), (4, .int l4), (5, .int l5)] [] (wd s0.heap.size sh S) := by
  intro S l1 l2 l4 l5 hF
  unfold F_X5_leastTallied_L118 at hF
  refine V_iload_n dX5_leastTallied_118 rfl ?_
  refine V_iconst (v := 1) dX5_leastTallied_119 (by decide) ?_
  refine V_iload dX5_leastTallied_120 rfl ?_
  refine V_ishl dX5_leastTallied_122 ?_
  refine V_iconst (v := 1) dX5_leastTallied_123 (by decide) ?_
  refine V_iload dX5_leastTallied_124 rfl ?_
  refine V_ishl dX5_leastTallied_126 ?_
  refine V_ior dX5_leastTallied_127 ?_
  refine V_iconst (v := -1) dX5_leastTallied_128 (by decide) ?_
  refine V_ixor dX5_leastTallied_129 ?_
  refine V_iand dX5_leastTallied_130 ?_
  obtain ⟨x1, qx1, hF⟩ := bnd_g hF
  refine B_istore_n qx1 dX5_leastTallied_131 (by decide) ?_
  refine V_lload_n dX5_leastTallied_132 rfl ?_
  refine V_iload dX5_leastTallied_133 rfl ?_
  refine V_iload dX5_leastTallied_135 rfl ?_
  obtain ⟨y2, hc, hF⟩ := bd hF
  refine V_callS dX5_leastTallied_137 kX5_74 (s_X4_inRow G hc (by omega)) rfl (Nat.le_of_ble_eq_true rfl) (fun _ _ _ q => q.elim) ?_
  rintro _ _ ⟨rfl, rfl⟩
  refine V_iload dX5_leastTallied_140 rfl ?_
  refine V_iload dX5_leastTallied_142 rfl ?_
  obtain ⟨y3, hc, hF⟩ := bd hF
  refine V_callS dX5_leastTallied_144 kX5_74 (s_X4_inRow G hc (by omega)) rfl (Nat.le_of_ble_eq_true rfl) (fun _ _ _ q => q.elim) ?_
  rintro _ _ ⟨rfl, rfl⟩
  refine V_lor dX5_leastTallied_147 ?_
  refine V_lor dX5_leastTallied_148 ?_
  obtain ⟨x4, qx4, hF⟩ := bnd_g hF
  refine B_lstore_n qx4 dX5_leastTallied_149 (by decide) ?_
  obtain ⟨x5, qx5, hF⟩ := bnd_g hF
  refine B_iinc (v := 1) qx5 dX5_leastTallied_150 rfl (by decide) (by decide) ?_
  refine V_goto (tgt := 13) dX5_leastTallied_153 (by decide) ?_
  exact V_lv' (hk13 _ _ _ _ hF) (v_all_c rfl (v_all_c rfl (v_all_c rfl (v_all_c rfl v_all_n))))
set_option maxRecDepth 100000 in
set_option maxHeartbeats 4000000 in
theorem w_X5_leastTallied_L45 {l : Launch} {s0 : State} {D : va_G} {a0 : Array Value} {sh : List Sh} {f : Nat} {t : Nat} (ht : isX5 sh t) {r : Int64 × St} {d : Nat} (G : GC l s0 D a0) (hd : 2 ≤ d + 1) {k13 : St → Int32 → Int64 → Int32 → Option (Int64 × St)} (hk13 : ∀ (S : St) (l1 : Int32) (l2 : Int64) (l4 : Int32), k13 S l1 l2 l4 = some r → V l s0 D (d + 1) 0 0 mX5_leastTallied (fun v h => v = some (.long r.1) ∧ h = wd s0.heap.size sh r.2) v_noX 13 [(0, .ref (s0.heap.size + t)), (1, .int l1), (2, .long l2), (4, .int l4)] [] (wd s0.heap.size sh S)) : ∀ (S : St) (l1 : Int32) (l2 : Int64) (l4 : Int32) (v0 : Int32), F_X5_leastTallied_L45 sh f t k13 S l1 l2 l4 v0 = some r → V l s0 D (d + 1) 0 0 mX5_leastTallied (fun v h => v = some (.long r.1) ∧ h = wd s0.heap.size sh r.2) v_noX 45 [(0, .ref (s0.heap.size + t)), (1, .int l1), (2, .long l2), (4, .int l4)] [.int v0] (wd s0.heap.size sh S) := by
  intro S l1 l2 l4 v0 hF
  unfold F_X5_leastTallied_L45 at hF
  refine V_istore dX5_leastTallied_45 (by decide) ?_
  refine V_iload dX5_leastTallied_47 rfl ?_
  refine V_iconst (v := -1) dX5_leastTallied_49 (by decide) ?_
  refine V_icmp_eq (tgt := 150) dX5_leastTallied_50 (by decide) (fun c => ?_) (fun c => ?_)
  · replace hF := (if_pos c).symm.trans hF
    obtain ⟨x1, qx1, hF⟩ := bnd_g hF
    refine B_iinc (v := 1) qx1 dX5_leastTallied_150 rfl (by decide) (by decide) ?_
    refine V_goto (tgt := 13) dX5_leastTallied_153 (by decide) ?_
    exact V_lv' (hk13 _ _ _ _ hF) (v_all_c rfl (v_all_c rfl (v_all_c rfl (v_all_c rfl v_all_n))))
  · replace hF := (if_neg c).symm.trans hF
    refine V_aload_n dX5_leastTallied_53 rfl ?_
    refine X_gC G dX5_leastTallied_54 fX5_12 ht.1 rfl ?_
    refine X_gC G dX5_leastTallied_57 fX5_119 ht.2.1.1 rfl ?_
    refine V_iload dX5_leastTallied_60 rfl ?_
    obtain ⟨hz, hF⟩ := gv_out hF
    refine X_iald dX5_leastTallied_62 ht.2.1.2.2.2.1 hz ?_
    obtain ⟨x2, qx2, hF⟩ := bnd_g hF
    refine B_istore qx2 dX5_leastTallied_63 (by decide) ?_
    refine V_aload_n dX5_leastTallied_65 rfl ?_
    refine X_gC G dX5_leastTallied_66 fX5_12 ht.1 rfl ?_
    refine X_gC G dX5_leastTallied_69 fX5_119 ht.2.1.1 rfl ?_
    refine V_iload dX5_leastTallied_72 rfl ?_
    obtain ⟨hz, hF⟩ := gv_out hF
    refine X_iald dX5_leastTallied_74 ht.2.1.2.2.2.1 hz ?_
    obtain ⟨x3, qx3, hF⟩ := bnd_g hF
    refine B_istore qx3 dX5_leastTallied_75 (by decide) ?_
    refine V_aload_n dX5_leastTallied_77 rfl ?_
    refine X_gC G dX5_leastTallied_78 fX5_18 ht.1 rfl ?_
    refine V_iload dX5_leastTallied_81 rfl ?_
    refine V_bipush (v := 12) dX5_leastTallied_83 (by decide) ?_
    refine V_imul dX5_leastTallied_85 ?_
    refine V_iload dX5_leastTallied_86 rfl ?_
    refine V_iadd dX5_leastTallied_88 ?_
    refine V_dup2 dX5_leastTallied_89 rfl rfl ?_
    obtain ⟨hz, hF⟩ := gv_out hF
    refine X_iald dX5_leastTallied_90 ht.2.2 hz ?_
    refine V_iconst (v := 1) dX5_leastTallied_91 (by decide) ?_
    refine V_isub dX5_leastTallied_92 ?_
    obtain ⟨hz, hF⟩ := gv_out hF
    refine X_iast dX5_leastTallied_93 ht.2.2 hz ?_
    obtain ⟨S4, qS4, hF⟩ := bnd_g hF
    refine V_eqS qS4 ?_
    refine V_iload dX5_leastTallied_94 rfl ?_
    refine V_iload dX5_leastTallied_96 rfl ?_
    refine V_icmp_eq (tgt := 118) dX5_leastTallied_98 (by decide) (fun c => ?_) (fun c => ?_)
    · replace hF := (if_pos c).symm.trans hF
      exact V_lv' (w_X5_leastTallied_L118 ht G hd hk13 _ _ _ _ _ hF) (v_all_c rfl (v_all_c rfl (v_all_c rfl (v_all_c rfl (v_all_c rfl v_all_n)))))
    · replace hF := (if_neg c).symm.trans hF
      refine V_aload_n dX5_leastTallied_101 rfl ?_
      refine X_gC G dX5_leastTallied_102 fX5_18 ht.1 rfl ?_
      refine V_iload dX5_leastTallied_105 rfl ?_
      refine V_bipush (v := 12) dX5_leastTallied_107 (by decide) ?_
      refine V_imul dX5_leastTallied_109 ?_
      refine V_iload dX5_leastTallied_110 rfl ?_
      refine V_iadd dX5_leastTallied_112 ?_
      refine V_dup2 dX5_leastTallied_113 rfl rfl ?_
      obtain ⟨hz, hF⟩ := gv_out hF
      refine X_iald dX5_leastTallied_114 ht.2.2 hz ?_
      refine V_iconst (v := 1) dX5_leastTallied_115 (by decide) ?_
      refine V_isub dX5_leastTallied_116 ?_
      obtain ⟨hz, hF⟩ := gv_out hF
      refine X_iast dX5_leastTallied_117 ht.2.2 hz ?_
      obtain ⟨S5, qS5, hF⟩ := bnd_g hF
      refine V_eqS qS5 ?_
      exact V_lv' (w_X5_leastTallied_L118 ht G hd hk13 _ _ _ _ _ hF) (v_all_c rfl (v_all_c rfl (v_all_c rfl (v_all_c rfl (v_all_c rfl v_all_n)))))
set_option maxRecDepth 100000 in
set_option maxHeartbeats 4000000 in
theorem w_X5_leastTallied_L13 {l : Launch} {s0 : State} {D : va_G} {a0 : Array Value} {sh : List Sh} {f : Nat} {t : Nat} (ht : isX5 sh t) {r : Int64 × St} {d : Nat} (G : GC l s0 D a0) (hd : 2 ≤ d + 1) : ∀ (n : Nat) (S : St) (l1 : Int32) (l2 : Int64) (l4 : Int32), F_X5_leastTallied_L13 sh f t n S l1 l2 l4 = some r → V l s0 D (d + 1) 0 0 mX5_leastTallied (fun v h => v = some (.long r.1) ∧ h = wd s0.heap.size sh r.2) v_noX 13 [(0, .ref (s0.heap.size + t)), (1, .int l1), (2, .long l2), (4, .int l4)] [] (wd s0.heap.size sh S) := by
  intro n
  induction n with
  | zero => intro S l1 l2 l4 hF; cases hF
  | succ n ih =>
    intro S l1 l2 l4 hF
    unfold F_X5_leastTallied_L13 at hF
    refine V_iload dX5_leastTallied_13 rfl ?_
    refine V_aload_n dX5_leastTallied_15 rfl ?_
    refine X_gC G dX5_leastTallied_16 fX5_12 ht.1 rfl ?_
    refine X_gI G dX5_leastTallied_19 fX5_63 ht.2.1.1 rfl ?_
    refine V_icmp_ge (tgt := 156) dX5_leastTallied_22 (by decide) (fun c => ?_) (fun c => ?_)
    · replace hF := (if_pos c).symm.trans hF
      refine V_lload_n dX5_leastTallied_156 rfl ?_
      cases hF
      exact V_lreturn dX5_leastTallied_157 rfl ⟨rfl, rfl⟩
    · replace hF := (if_neg c).symm.trans hF
      refine V_iload_n dX5_leastTallied_25 rfl ?_
      refine V_iload dX5_leastTallied_26 rfl ?_
      refine V_ishr dX5_leastTallied_28 ?_
      refine V_iconst (v := 1) dX5_leastTallied_29 (by decide) ?_
      refine V_iand dX5_leastTallied_30 ?_
      refine V_if_eq (tgt := 44) dX5_leastTallied_31 (by decide) (fun c => ?_) (fun c => ?_)
      · replace hF := (if_pos c).symm.trans hF
        refine V_iconst (v := -1) dX5_leastTallied_44 (by decide) ?_
        exact V_lv' (w_X5_leastTallied_L45 ht G hd ih _ _ _ _ _ hF) (v_all_c rfl (v_all_c rfl (v_all_c rfl (v_all_c rfl v_all_n))))
      · replace hF := (if_neg c).symm.trans hF
        refine V_aload_n dX5_leastTallied_34 rfl ?_
        refine V_iload dX5_leastTallied_35 rfl ?_
        refine V_iload_n dX5_leastTallied_37 rfl ?_
        obtain ⟨y1, hc, hF⟩ := bd hF
        refine V_callV G dX5_leastTallied_38 kX5_126 (wd_at ht.1) ⟨by decide, rfl⟩ (s_X5_firstTallied ht G hc (by omega)) rfl (Nat.le_of_ble_eq_true rfl) (fun _ _ _ q => q.elim) ?_
        rintro _ _ ⟨rfl, rfl⟩
        refine V_goto (tgt := 45) dX5_leastTallied_41 (by decide) ?_
        exact V_lv' (w_X5_leastTallied_L45 ht G hd ih _ _ _ _ _ hF) (v_all_c rfl (v_all_c rfl (v_all_c rfl (v_all_c rfl v_all_n))))
set_option maxRecDepth 100000 in
set_option maxHeartbeats 4000000 in
theorem s_X5_leastTallied {l : Launch} {s0 : State} {D : va_G} {a0 : Array Value} {sh : List Sh} {f : Nat} {S : St} {t : Nat} (ht : isX5 sh t) {r : Int64 × St} (G : GC l s0 D a0) (hF : F_X5_leastTallied sh f S t = some r) {d : Nat} (hd : 2 ≤ d) : Sp l s0 D d 0 0 mX5_leastTallied (fun v h => v = some (.long r.1) ∧ h = wd s0.heap.size sh r.2) v_noX [.ref (s0.heap.size + t)] (wd s0.heap.size sh S) := by
  obtain ⟨d, rfl⟩ : ∃ e, d = e + 1 := ⟨d - 1, by omega⟩
  refine Sp.of (by decide +kernel) rfl (Nat.le_of_ble_eq_true rfl) ?_
  unfold F_X5_leastTallied at hF
  refine V_aload_n dX5_leastTallied_0 rfl ?_
  refine X_gC G dX5_leastTallied_1 fX5_12 ht.1 rfl ?_
  obtain ⟨y1, hc, hF⟩ := bd hF
  refine V_callV G dX5_leastTallied_4 kX5_45 (wd_at ht.2.1.1) ⟨by decide, rfl⟩ (s_X4_allLegs ht.2.1 G hc (by omega)) rfl (Nat.le_of_ble_eq_true rfl) (fun _ _ _ q => q.elim) ?_
  rintro _ _ ⟨rfl, rfl⟩
  refine V_istore_n dX5_leastTallied_7 (by decide) ?_
  refine V_lconst (v := 0) dX5_leastTallied_8 (by decide) ?_
  refine V_lstore_n dX5_leastTallied_9 (by decide) ?_
  refine V_iconst (v := 0) dX5_leastTallied_10 (by decide) ?_
  refine V_istore dX5_leastTallied_11 (by decide) ?_
  exact V_lv' (w_X5_leastTallied_L13 ht G hd f _ _ _ _ hF) (v_all_c rfl (v_all_c rfl (v_all_c rfl (v_all_c rfl v_all_n))))
set_option maxRecDepth 100000 in
set_option maxHeartbeats 4000000 in
theorem w_X5_heaviesOf_L12 {l : Launch} {s0 : State} {D : va_G} {a0 : Array Value} {sh : List Sh} {f : Nat} {S : St} {t : Nat} {p1 : Nat} {p2 : Int64} (ht : isX5 sh t) (hp1 : isX0 sh p1) {r : Int32} {d : Nat} (G : GC l s0 D a0) (hd : 2 ≤ d + 1) : ∀ (n : Nat) (l4 : Int32) (l5 : Int32), F_X5_heaviesOf_L12 sh f S t p1 p2 n l4 l5 = some r → V l s0 D (d + 1) 0 0 mX5_heaviesOf (fun v h => v = some (.int r) ∧ h = wd s0.heap.size sh S) v_noX 12 [(0, .ref (s0.heap.size + t)), (1, .ref (s0.heap.size + p1)), (2, .long p2), (4, .int l4), (5, .int l5)] [] (wd s0.heap.size sh S) := by
  intro n
  induction n with
  | zero => intro l4 l5 hF; cases hF
  | succ n ih =>
    intro l4 l5 hF
    unfold F_X5_heaviesOf_L12 at hF
    refine V_iload dX5_heaviesOf_12 rfl ?_
    refine V_aload_n dX5_heaviesOf_14 rfl ?_
    refine X_gC G dX5_heaviesOf_15 fX5_12 ht.1 rfl ?_
    refine X_gI G dX5_heaviesOf_18 fX5_63 ht.2.1.1 rfl ?_
    refine V_icmp_ge (tgt := 61) dX5_heaviesOf_21 (by decide) (fun c => ?_) (fun c => ?_)
    · replace hF := (if_pos c).symm.trans hF
      refine V_iload dX5_heaviesOf_61 rfl ?_
      cases hF
      exact V_ireturn dX5_heaviesOf_63 rfl rfl ⟨rfl, rfl⟩
    · replace hF := (if_neg c).symm.trans hF
      refine V_lload_n dX5_heaviesOf_24 rfl ?_
      refine V_iload dX5_heaviesOf_25 rfl ?_
      obtain ⟨y1, hc, hF⟩ := bd hF
      refine V_callS dX5_heaviesOf_27 kX5_116 (s_X4_partnerIn G hc (by omega)) rfl (Nat.le_of_ble_eq_true rfl) (fun _ _ _ q => q.elim) ?_
      rintro _ _ ⟨rfl, rfl⟩
      refine V_iload dX5_heaviesOf_30 rfl ?_
      refine V_icmp_le (tgt := 55) dX5_heaviesOf_32 (by decide) (fun c => ?_) (fun c => ?_)
      · replace hF := (if_pos c).symm.trans hF
        obtain ⟨x2, qx2, hF⟩ := bnd_g hF
        refine B_iinc (v := 1) qx2 dX5_heaviesOf_55 rfl (by decide) (by decide) ?_
        refine V_goto (tgt := 12) dX5_heaviesOf_58 (by decide) ?_
        exact V_lv' (ih _ _ hF) (v_all_c rfl (v_all_c rfl (v_all_c rfl (v_all_c rfl (v_all_c rfl v_all_n)))))
      · replace hF := (if_neg c).symm.trans hF
        refine V_iload dX5_heaviesOf_35 rfl ?_
        refine V_aload_n dX5_heaviesOf_37 rfl ?_
        refine X_gC G dX5_heaviesOf_38 fX5_135 hp1.1 rfl ?_
        refine V_aload_n dX5_heaviesOf_41 rfl ?_
        refine X_gC G dX5_heaviesOf_42 fX5_12 ht.1 rfl ?_
        refine X_gC G dX5_heaviesOf_45 fX5_140 ht.2.1.1 rfl ?_
        refine V_iload dX5_heaviesOf_48 rfl ?_
        obtain ⟨hz, hF⟩ := gv_out hF
        refine X_iald dX5_heaviesOf_50 ht.2.1.2.1 hz ?_
        obtain ⟨hz, hF⟩ := gv_out hF
        refine X_iald dX5_heaviesOf_51 hp1.2.2.2.1 hz ?_
        refine V_imul dX5_heaviesOf_52 ?_
        obtain ⟨x3, qx3, hF⟩ := bnd_g hF
        refine B_istore qx3 dX5_heaviesOf_53 (by decide) ?_
        obtain ⟨x4, qx4, hF⟩ := bnd_g hF
        refine B_iinc (v := 1) qx4 dX5_heaviesOf_55 rfl (by decide) (by decide) ?_
        refine V_goto (tgt := 12) dX5_heaviesOf_58 (by decide) ?_
        exact V_lv' (ih _ _ hF) (v_all_c rfl (v_all_c rfl (v_all_c rfl (v_all_c rfl (v_all_c rfl v_all_n)))))
set_option maxRecDepth 100000 in
set_option maxHeartbeats 4000000 in
theorem s_X5_heaviesOf {l : Launch} {s0 : State} {D : va_G} {a0 : Array Value} {sh : List Sh} {f : Nat} {S : St} {t : Nat} {p1 : Nat} {p2 : Int64} (ht : isX5 sh t) (hp1 : isX0 sh p1) {r : Int32} (G : GC l s0 D a0) (hF : F_X5_heaviesOf sh f S t p1 p2 = some r) {d : Nat} (hd : 2 ≤ d) : Sp l s0 D d 0 0 mX5_heaviesOf (fun v h => v = some (.int r) ∧ h = wd s0.heap.size sh S) v_noX [.ref (s0.heap.size + t), .ref (s0.heap.size + p1), .long p2] (wd s0.heap.size sh S) := by
  obtain ⟨d, rfl⟩ : ∃ e, d = e + 1 := ⟨d - 1, by omega⟩
  refine Sp.of (by decide +kernel) rfl (Nat.le_of_ble_eq_true rfl) ?_
  unfold F_X5_heaviesOf at hF
  refine V_iconst (v := 1) dX5_heaviesOf_0 (by decide) ?_
  refine V_istore dX5_heaviesOf_1 (by decide) ?_
  refine V_aload_n dX5_heaviesOf_3 rfl ?_
  refine X_gC G dX5_heaviesOf_4 fX5_12 ht.1 rfl ?_
  refine X_gI G dX5_heaviesOf_7 fX5_129 ht.2.1.1 rfl ?_
  obtain ⟨x1, qx1, hF⟩ := bnd_g hF
  refine B_istore qx1 dX5_heaviesOf_10 (by decide) ?_
  exact V_lv' (w_X5_heaviesOf_L12 ht hp1 G hd f _ _ hF) (v_all_c rfl (v_all_c rfl (v_all_c rfl (v_all_c rfl (v_all_c rfl v_all_n)))))
set_option maxRecDepth 100000 in
set_option maxHeartbeats 4000000 in
theorem w_X5_doubledLinks_L14 {l : Launch} {s0 : State} {D : va_G} {a0 : Array Value} {sh : List Sh} {f : Nat} {S : St} {t : Nat} {p1 : Int64} (ht : isX5 sh t) {r : Int32} {d : Nat} (G : GC l s0 D a0) (hd : 2 ≤ d + 1) : ∀ (n : Nat) (l3 : Int32) (l4 : Int32) (l5 : Int32), F_X5_doubledLinks_L14 sh f S t p1 n l3 l4 l5 = some r → V l s0 D (d + 1) 0 0 mX5_doubledLinks (fun v h => v = some (.int r) ∧ h = wd s0.heap.size sh S) v_noX 14 [(0, .ref (s0.heap.size + t)), (1, .long p1), (3, .int l3), (4, .int l4), (5, .int l5)] [] (wd s0.heap.size sh S) := by
  intro n
  induction n with
  | zero => intro l3 l4 l5 hF; cases hF
  | succ n ih =>
    intro l3 l4 l5 hF
    unfold F_X5_doubledLinks_L14 at hF
    refine V_iload dX5_doubledLinks_14 rfl ?_
    refine V_aload_n dX5_doubledLinks_16 rfl ?_
    refine X_gC G dX5_doubledLinks_17 fX5_12 ht.1 rfl ?_
    refine X_gI G dX5_doubledLinks_20 fX5_63 ht.2.1.1 rfl ?_
    refine V_icmp_ge (tgt := 74) dX5_doubledLinks_23 (by decide) (fun c => ?_) (fun c => ?_)
    · replace hF := (if_pos c).symm.trans hF
      refine V_iload dX5_doubledLinks_74 rfl ?_
      cases hF
      exact V_ireturn dX5_doubledLinks_76 rfl rfl ⟨rfl, rfl⟩
    · replace hF := (if_neg c).symm.trans hF
      refine V_lload_n dX5_doubledLinks_26 rfl ?_
      refine V_iload dX5_doubledLinks_27 rfl ?_
      obtain ⟨y1, hc, hF⟩ := bd hF
      refine V_callS dX5_doubledLinks_29 kX5_116 (s_X4_partnerIn G hc (by omega)) rfl (Nat.le_of_ble_eq_true rfl) (fun _ _ _ q => q.elim) ?_
      rintro _ _ ⟨rfl, rfl⟩
      refine V_istore dX5_doubledLinks_32 (by decide) ?_
      refine V_iload dX5_doubledLinks_34 rfl ?_
      refine V_iload dX5_doubledLinks_36 rfl ?_
      refine V_icmp_le (tgt := 68) dX5_doubledLinks_38 (by decide) (fun c => ?_) (fun c => ?_)
      · replace hF := (if_pos c).symm.trans hF
        obtain ⟨x2, qx2, hF⟩ := bnd_g hF
        refine B_iinc (v := 1) qx2 dX5_doubledLinks_68 rfl (by decide) (by decide) ?_
        refine V_goto (tgt := 14) dX5_doubledLinks_71 (by decide) ?_
        exact V_lv' (ih _ _ _ hF) (v_all_c rfl (v_all_c rfl (v_all_c rfl (v_all_c rfl (v_all_c rfl v_all_n)))))
      · replace hF := (if_neg c).symm.trans hF
        refine V_aload_n dX5_doubledLinks_41 rfl ?_
        refine X_gC G dX5_doubledLinks_42 fX5_12 ht.1 rfl ?_
        refine V_iload dX5_doubledLinks_45 rfl ?_
        refine V_iload dX5_doubledLinks_47 rfl ?_
        obtain ⟨y3, hc, hF⟩ := bd hF
        refine V_callV G dX5_doubledLinks_49 kX5_132 (wd_at ht.2.1.1) ⟨by decide, rfl⟩ (s_X4_link ht.2.1 G hc (by omega)) rfl (Nat.le_of_ble_eq_true rfl) (fun _ _ _ q => q.elim) ?_
        rintro _ _ ⟨rfl, rfl⟩
        refine V_istore dX5_doubledLinks_52 (by decide) ?_
        refine V_iload dX5_doubledLinks_54 rfl ?_
        refine V_iload_n dX5_doubledLinks_56 rfl ?_
        refine V_iload dX5_doubledLinks_57 rfl ?_
        refine V_iand dX5_doubledLinks_59 ?_
        refine V_ior dX5_doubledLinks_60 ?_
        obtain ⟨x4, qx4, hF⟩ := bnd_g hF
        refine B_istore qx4 dX5_doubledLinks_61 (by decide) ?_
        refine V_iload_n dX5_doubledLinks_63 rfl ?_
        refine V_iload dX5_doubledLinks_64 rfl ?_
        refine V_ior dX5_doubledLinks_66 ?_
        obtain ⟨x5, qx5, hF⟩ := bnd_g hF
        refine B_istore_n qx5 dX5_doubledLinks_67 (by decide) ?_
        obtain ⟨x6, qx6, hF⟩ := bnd_g hF
        refine B_iinc (v := 1) qx6 dX5_doubledLinks_68 rfl (by decide) (by decide) ?_
        refine V_goto (tgt := 14) dX5_doubledLinks_71 (by decide) ?_
        exact V_lv' (ih _ _ _ hF) (v_all_c rfl (v_all_c rfl (v_all_c rfl (v_all_c rfl (v_all_c rfl v_all_n)))))
set_option maxRecDepth 100000 in
set_option maxHeartbeats 4000000 in
theorem s_X5_doubledLinks {l : Launch} {s0 : State} {D : va_G} {a0 : Array Value} {sh : List Sh} {f : Nat} {S : St} {t : Nat} {p1 : Int64} (ht : isX5 sh t) {r : Int32} (G : GC l s0 D a0) (hF : F_X5_doubledLinks sh f S t p1 = some r) {d : Nat} (hd : 2 ≤ d) : Sp l s0 D d 0 0 mX5_doubledLinks (fun v h => v = some (.int r) ∧ h = wd s0.heap.size sh S) v_noX [.ref (s0.heap.size + t), .long p1] (wd s0.heap.size sh S) := by
  obtain ⟨d, rfl⟩ : ∃ e, d = e + 1 := ⟨d - 1, by omega⟩
  refine Sp.of (by decide +kernel) rfl (Nat.le_of_ble_eq_true rfl) ?_
  unfold F_X5_doubledLinks at hF
  refine V_iconst (v := 0) dX5_doubledLinks_0 (by decide) ?_
  refine V_istore_n dX5_doubledLinks_1 (by decide) ?_
  refine V_iconst (v := 0) dX5_doubledLinks_2 (by decide) ?_
  refine V_istore dX5_doubledLinks_3 (by decide) ?_
  refine V_aload_n dX5_doubledLinks_5 rfl ?_
  refine X_gC G dX5_doubledLinks_6 fX5_12 ht.1 rfl ?_
  refine X_gI G dX5_doubledLinks_9 fX5_129 ht.2.1.1 rfl ?_
  obtain ⟨x1, qx1, hF⟩ := bnd_g hF
  refine B_istore qx1 dX5_doubledLinks_12 (by decide) ?_
  exact V_lv' (w_X5_doubledLinks_L14 ht G hd f _ _ _ hF) (v_all_c rfl (v_all_c rfl (v_all_c rfl (v_all_c rfl (v_all_c rfl v_all_n)))))
set_option maxRecDepth 100000 in
set_option maxHeartbeats 4000000 in
theorem w_X5_reach_L53 {l : Launch} {s0 : State} {D : va_G} {a0 : Array Value} {sh : List Sh} {f : Nat} {S : St} {t : Nat} {p1 : Int64} {p3 : Int32} (ht : isX5 sh t) {r : Int32} {d : Nat} (G : GC l s0 D a0) (hd : 2 ≤ d + 1) {k26 : Int32 → Int32 → Int32 → Option (Int32)} (hk26 : ∀ (l4 : Int32) (l5 : Int32) (l6 : Int32), k26 l4 l5 l6 = some r → V l s0 D (d + 1) 0 0 mX5_reach (fun v h => v = some (.int r) ∧ h = wd s0.heap.size sh S) v_noX 26 [(3, .int p3), (4, .int l4), (5, .int l5), (6, .int l6)] [] (wd s0.heap.size sh S)) : ∀ (l4 : Int32) (l5 : Int32) (l6 : Int32) (v0 : Int32), F_X5_reach_L53 sh f S t p1 p3 k26 l4 l5 l6 v0 = some r → V l s0 D (d + 1) 0 0 mX5_reach (fun v h => v = some (.int r) ∧ h = wd s0.heap.size sh S) v_noX 53 [(3, .int p3), (4, .int l4), (5, .int l5), (6, .int l6)] [.int v0] (wd s0.heap.size sh S) := by
  intro l4 l5 l6 v0 hF
  unfold F_X5_reach_L53 at hF
  refine V_istore dX5_reach_53 (by decide) ?_
  refine V_iload_n dX5_reach_55 rfl ?_
  refine V_iload dX5_reach_56 rfl ?_
  refine V_ishr dX5_reach_58 ?_
  refine V_iconst (v := 1) dX5_reach_59 (by decide) ?_
  refine V_iand dX5_reach_60 ?_
  refine V_if_eq (tgt := 79) dX5_reach_61 (by decide) (fun c => ?_) (fun c => ?_)
  · replace hF := (if_pos c).symm.trans hF
    obtain ⟨x1, qx1, hF⟩ := bnd_g hF
    refine B_iinc (v := 1) qx1 dX5_reach_79 rfl (by decide) (by decide) ?_
    refine V_goto (tgt := 26) dX5_reach_82 (by decide) ?_
    exact V_lv' (hk26 _ _ _ hF) (v_all_c rfl (v_all_c rfl (v_all_c rfl (v_all_c rfl v_all_n))))
  · replace hF := (if_neg c).symm.trans hF
    refine V_iload dX5_reach_64 rfl ?_
    refine V_iload dX5_reach_66 rfl ?_
    refine V_iand dX5_reach_68 ?_
    refine V_if_eq (tgt := 79) dX5_reach_69 (by decide) (fun c => ?_) (fun c => ?_)
    · replace hF := (if_pos c).symm.trans hF
      obtain ⟨x2, qx2, hF⟩ := bnd_g hF
      refine B_iinc (v := 1) qx2 dX5_reach_79 rfl (by decide) (by decide) ?_
      refine V_goto (tgt := 26) dX5_reach_82 (by decide) ?_
      exact V_lv' (hk26 _ _ _ hF) (v_all_c rfl (v_all_c rfl (v_all_c rfl (v_all_c rfl v_all_n))))
    · replace hF := (if_neg c).symm.trans hF
      refine V_iload dX5_reach_72 rfl ?_
      refine V_iload dX5_reach_74 rfl ?_
      refine V_ior dX5_reach_76 ?_
      obtain ⟨x3, qx3, hF⟩ := bnd_g hF
      refine B_istore qx3 dX5_reach_77 (by decide) ?_
      obtain ⟨x4, qx4, hF⟩ := bnd_g hF
      refine B_iinc (v := 1) qx4 dX5_reach_79 rfl (by decide) (by decide) ?_
      refine V_goto (tgt := 26) dX5_reach_82 (by decide) ?_
      exact V_lv' (hk26 _ _ _ hF) (v_all_c rfl (v_all_c rfl (v_all_c rfl (v_all_c rfl v_all_n))))
set_option maxRecDepth 100000 in
set_option maxHeartbeats 4000000 in
theorem w_X5_reach_L26 {l : Launch} {s0 : State} {D : va_G} {a0 : Array Value} {sh : List Sh} {f : Nat} {S : St} {t : Nat} {p1 : Int64} {p3 : Int32} (ht : isX5 sh t) {r : Int32} {d : Nat} (G : GC l s0 D a0) (hd : 2 ≤ d + 1) {k17 : Int32 → Int32 → Option (Int32)} (hk17 : ∀ (l4 : Int32) (l5 : Int32), k17 l4 l5 = some r → V l s0 D (d + 1) 0 0 mX5_reach (fun v h => v = some (.int r) ∧ h = wd s0.heap.size sh S) v_noX 17 [(3, .int p3), (4, .int l4), (5, .int l5)] [] (wd s0.heap.size sh S)) : ∀ (n : Nat) (l4 : Int32) (l5 : Int32) (l6 : Int32), F_X5_reach_L26 sh f S t p1 p3 k17 n l4 l5 l6 = some r → V l s0 D (d + 1) 0 0 mX5_reach (fun v h => v = some (.int r) ∧ h = wd s0.heap.size sh S) v_noX 26 [(3, .int p3), (4, .int l4), (5, .int l5), (6, .int l6)] [] (wd s0.heap.size sh S) := by
  intro n
  induction n with
  | zero => intro l4 l5 l6 hF; cases hF
  | succ n ih =>
    intro l4 l5 l6 hF
    unfold F_X5_reach_L26 at hF
    refine V_iload dX5_reach_26 rfl ?_
    refine V_iconst (v := 3) dX5_reach_28 (by decide) ?_
    refine V_icmp_ge (tgt := 85) dX5_reach_29 (by decide) (fun c => ?_) (fun c => ?_)
    · replace hF := (if_pos c).symm.trans hF
      obtain ⟨x1, qx1, hF⟩ := bnd_g hF
      refine B_iinc (v := 1) qx1 dX5_reach_85 rfl (by decide) (by decide) ?_
      refine V_goto (tgt := 17) dX5_reach_88 (by decide) ?_
      exact V_lv' (hk17 _ _ hF) (v_all_c rfl (v_all_c rfl (v_all_c rfl v_all_n)))
    · replace hF := (if_neg c).symm.trans hF
      refine V_iload dX5_reach_32 rfl ?_
      refine V_if_ne (tgt := 41) dX5_reach_34 (by decide) (fun c => ?_) (fun c => ?_)
      · replace hF := (if_neg c).symm.trans hF
        refine V_iload dX5_reach_41 rfl ?_
        refine V_iconst (v := 1) dX5_reach_43 (by decide) ?_
        refine V_icmp_ne (tgt := 51) dX5_reach_44 (by decide) (fun c => ?_) (fun c => ?_)
        · replace hF := (if_neg c).symm.trans hF
          refine V_bipush (v := 6) dX5_reach_51 (by decide) ?_
          exact V_lv' (w_X5_reach_L53 ht G hd ih _ _ _ _ hF) (v_all_c rfl (v_all_c rfl (v_all_c rfl (v_all_c rfl v_all_n))))
        · replace hF := (if_pos c).symm.trans hF
          refine V_iconst (v := 5) dX5_reach_47 (by decide) ?_
          refine V_goto (tgt := 53) dX5_reach_48 (by decide) ?_
          exact V_lv' (w_X5_reach_L53 ht G hd ih _ _ _ _ hF) (v_all_c rfl (v_all_c rfl (v_all_c rfl (v_all_c rfl v_all_n))))
      · replace hF := (if_pos c).symm.trans hF
        refine V_iconst (v := 3) dX5_reach_37 (by decide) ?_
        refine V_goto (tgt := 53) dX5_reach_38 (by decide) ?_
        exact V_lv' (w_X5_reach_L53 ht G hd ih _ _ _ _ hF) (v_all_c rfl (v_all_c rfl (v_all_c rfl (v_all_c rfl v_all_n))))
set_option maxRecDepth 100000 in
set_option maxHeartbeats 4000000 in
theorem w_X5_reach_L17 {l : Launch} {s0 : State} {D : va_G} {a0 : Array Value} {sh : List Sh} {f : Nat} {S : St} {t : Nat} {p1 : Int64} {p3 : Int32} (ht : isX5 sh t) {r : Int32} {d : Nat} (G : GC l s0 D a0) (hd : 2 ≤ d + 1) : ∀ (n : Nat) (l4 : Int32) (l5 : Int32), F_X5_reach_L17 sh f S t p1 p3 n l4 l5 = some r → V l s0 D (d + 1) 0 0 mX5_reach (fun v h => v = some (.int r) ∧ h = wd s0.heap.size sh S) v_noX 17 [(3, .int p3), (4, .int l4), (5, .int l5)] [] (wd s0.heap.size sh S) := by
  intro n
  induction n with
  | zero => intro l4 l5 hF; cases hF
  | succ n ih =>
    intro l4 l5 hF
    unfold F_X5_reach_L17 at hF
    refine V_iload dX5_reach_17 rfl ?_
    refine V_iconst (v := 3) dX5_reach_19 (by decide) ?_
    refine V_icmp_ge (tgt := 91) dX5_reach_20 (by decide) (fun c => ?_) (fun c => ?_)
    · replace hF := (if_pos c).symm.trans hF
      refine V_iload dX5_reach_91 rfl ?_
      cases hF
      exact V_ireturn dX5_reach_93 rfl rfl ⟨rfl, rfl⟩
    · replace hF := (if_neg c).symm.trans hF
      refine V_iconst (v := 0) dX5_reach_23 (by decide) ?_
      refine V_istore dX5_reach_24 (by decide) ?_
      exact V_lv' (w_X5_reach_L26 ht G hd ih f _ _ _ hF) (v_all_c rfl (v_all_c rfl (v_all_c rfl (v_all_c rfl v_all_n))))
set_option maxRecDepth 100000 in
set_option maxHeartbeats 4000000 in
theorem s_X5_reach {l : Launch} {s0 : State} {D : va_G} {a0 : Array Value} {sh : List Sh} {f : Nat} {S : St} {t : Nat} {p1 : Int64} {p3 : Int32} (ht : isX5 sh t) {r : Int32} (G : GC l s0 D a0) (hF : F_X5_reach sh f S t p1 p3 = some r) {d : Nat} (hd : 2 ≤ d) : Sp l s0 D d 0 0 mX5_reach (fun v h => v = some (.int r) ∧ h = wd s0.heap.size sh S) v_noX [.ref (s0.heap.size + t), .long p1, .int p3] (wd s0.heap.size sh S) := by
  obtain ⟨d, rfl⟩ : ∃ e, d = e + 1 := ⟨d - 1, by omega⟩
  refine Sp.of (by decide +kernel) rfl (Nat.le_of_ble_eq_true rfl) ?_
  unfold F_X5_reach at hF
  refine V_aload_n dX5_reach_0 rfl ?_
  refine X_gC G dX5_reach_1 fX5_12 ht.1 rfl ?_
  refine V_lload_n dX5_reach_4 rfl ?_
  refine V_iconst (v := 0) dX5_reach_5 (by decide) ?_
  obtain ⟨y1, hc, hF⟩ := bd hF
  refine V_callS dX5_reach_6 kX5_116 (s_X4_partnerIn G hc (by omega)) rfl (Nat.le_of_ble_eq_true rfl) (fun _ _ _ q => q.elim) ?_
  rintro _ _ ⟨rfl, rfl⟩
  obtain ⟨y2, hc, hF⟩ := bd hF
  refine V_callV G dX5_reach_9 kX5_71 (wd_at ht.2.1.1) ⟨by decide, rfl⟩ (s_X4_pointBit ht.2.1 G hc (by omega)) rfl (Nat.le_of_ble_eq_true rfl) (fun _ _ _ q => q.elim) ?_
  rintro _ _ ⟨rfl, rfl⟩
  refine V_istore dX5_reach_12 (by decide) ?_
  refine V_iconst (v := 1) dX5_reach_14 (by decide) ?_
  refine V_istore dX5_reach_15 (by decide) ?_
  exact V_lv' (w_X5_reach_L17 ht G hd f _ _ hF) (v_all_c rfl (v_all_c rfl (v_all_c rfl v_all_n)))
set_option maxRecDepth 100000 in
set_option maxHeartbeats 4000000 in
theorem w_X5_endsAt_L6 {l : Launch} {s0 : State} {D : va_G} {a0 : Array Value} {sh : List Sh} {f : Nat} {S : St} {t : Nat} {p1 : Int64} {p3 : Int32} (ht : isX5 sh t) {r : Int32} {d : Nat} (G : GC l s0 D a0) (hd : 2 ≤ d + 1) : ∀ (n : Nat) (l4 : Int32) (l5 : Int32), F_X5_endsAt_L6 sh f S t p1 p3 n l4 l5 = some r → V l s0 D (d + 1) 0 0 mX5_endsAt (fun v h => v = some (.int r) ∧ h = wd s0.heap.size sh S) v_noX 6 [(0, .ref (s0.heap.size + t)), (1, .long p1), (3, .int p3), (4, .int l4), (5, .int l5)] [] (wd s0.heap.size sh S) := by
  intro n
  induction n with
  | zero => intro l4 l5 hF; cases hF
  | succ n ih =>
    intro l4 l5 hF
    unfold F_X5_endsAt_L6 at hF
    refine V_iload dX5_endsAt_6 rfl ?_
    refine V_aload_n dX5_endsAt_8 rfl ?_
    refine X_gC G dX5_endsAt_9 fX5_12 ht.1 rfl ?_
    refine X_gI G dX5_endsAt_12 fX5_129 ht.2.1.1 rfl ?_
    refine V_icmp_ge (tgt := 51) dX5_endsAt_15 (by decide) (fun c => ?_) (fun c => ?_)
    · replace hF := (if_pos c).symm.trans hF
      refine V_iload dX5_endsAt_51 rfl ?_
      cases hF
      exact V_ireturn dX5_endsAt_53 rfl rfl ⟨rfl, rfl⟩
    · replace hF := (if_neg c).symm.trans hF
      refine V_aload_n dX5_endsAt_18 rfl ?_
      refine X_gC G dX5_endsAt_19 fX5_12 ht.1 rfl ?_
      refine V_lload_n dX5_endsAt_22 rfl ?_
      refine V_iload dX5_endsAt_23 rfl ?_
      obtain ⟨y1, hc, hF⟩ := bd hF
      refine V_callS dX5_endsAt_25 kX5_116 (s_X4_partnerIn G hc (by omega)) rfl (Nat.le_of_ble_eq_true rfl) (fun _ _ _ q => q.elim) ?_
      rintro _ _ ⟨rfl, rfl⟩
      obtain ⟨y2, hc, hF⟩ := bd hF
      refine V_callV G dX5_endsAt_28 kX5_71 (wd_at ht.2.1.1) ⟨by decide, rfl⟩ (s_X4_pointBit ht.2.1 G hc (by omega)) rfl (Nat.le_of_ble_eq_true rfl) (fun _ _ _ q => q.elim) ?_
      rintro _ _ ⟨rfl, rfl⟩
      refine V_iload_n dX5_endsAt_31 rfl ?_
      refine V_iand dX5_endsAt_32 ?_
      refine V_if_eq (tgt := 45) dX5_endsAt_33 (by decide) (fun c => ?_) (fun c => ?_)
      · replace hF := (if_pos c).symm.trans hF
        obtain ⟨x3, qx3, hF⟩ := bnd_g hF
        refine B_iinc (v := 1) qx3 dX5_endsAt_45 rfl (by decide) (by decide) ?_
        refine V_goto (tgt := 6) dX5_endsAt_48 (by decide) ?_
        exact V_lv' (ih _ _ hF) (v_all_c rfl (v_all_c rfl (v_all_c rfl (v_all_c rfl (v_all_c rfl v_all_n)))))
      · replace hF := (if_neg c).symm.trans hF
        refine V_iload dX5_endsAt_36 rfl ?_
        refine V_iconst (v := 1) dX5_endsAt_38 (by decide) ?_
        refine V_iload dX5_endsAt_39 rfl ?_
        refine V_ishl dX5_endsAt_41 ?_
        refine V_ior dX5_endsAt_42 ?_
        obtain ⟨x4, qx4, hF⟩ := bnd_g hF
        refine B_istore qx4 dX5_endsAt_43 (by decide) ?_
        obtain ⟨x5, qx5, hF⟩ := bnd_g hF
        refine B_iinc (v := 1) qx5 dX5_endsAt_45 rfl (by decide) (by decide) ?_
        refine V_goto (tgt := 6) dX5_endsAt_48 (by decide) ?_
        exact V_lv' (ih _ _ hF) (v_all_c rfl (v_all_c rfl (v_all_c rfl (v_all_c rfl (v_all_c rfl v_all_n)))))
set_option maxRecDepth 100000 in
set_option maxHeartbeats 4000000 in
theorem s_X5_endsAt {l : Launch} {s0 : State} {D : va_G} {a0 : Array Value} {sh : List Sh} {f : Nat} {S : St} {t : Nat} {p1 : Int64} {p3 : Int32} (ht : isX5 sh t) {r : Int32} (G : GC l s0 D a0) (hF : F_X5_endsAt sh f S t p1 p3 = some r) {d : Nat} (hd : 2 ≤ d) : Sp l s0 D d 0 0 mX5_endsAt (fun v h => v = some (.int r) ∧ h = wd s0.heap.size sh S) v_noX [.ref (s0.heap.size + t), .long p1, .int p3] (wd s0.heap.size sh S) := by
  obtain ⟨d, rfl⟩ : ∃ e, d = e + 1 := ⟨d - 1, by omega⟩
  refine Sp.of (by decide +kernel) rfl (Nat.le_of_ble_eq_true rfl) ?_
  unfold F_X5_endsAt at hF
  refine V_iconst (v := 0) dX5_endsAt_0 (by decide) ?_
  refine V_istore dX5_endsAt_1 (by decide) ?_
  refine V_iconst (v := 0) dX5_endsAt_3 (by decide) ?_
  refine V_istore dX5_endsAt_4 (by decide) ?_
  exact V_lv' (w_X5_endsAt_L6 ht G hd f _ _ hF) (v_all_c rfl (v_all_c rfl (v_all_c rfl (v_all_c rfl (v_all_c rfl v_all_n)))))
set_option maxRecDepth 100000 in
set_option maxHeartbeats 4000000 in
theorem w_X5_findCuts_L120 {l : Launch} {s0 : State} {D : va_G} {a0 : Array Value} {sh : List Sh} {f : Nat} {t : Nat} {p1 : Int64} {p3 : Int32} (ht : isX5 sh t) {r : St} {d : Nat} (G : GC l s0 D a0) (hd : 3 ≤ d + 1) {k16 : St → Int32 → Int32 → Option (St)} (hk16 : ∀ (S : St) (l4 : Int32) (l5 : Int32), k16 S l4 l5 = some r → V l s0 D (d + 1) 0 0 mX5_findCuts (fun v h => v = none ∧ h = wd s0.heap.size sh r) v_noX 16 [(0, .ref (s0.heap.size + t)), (1, .long p1), (3, .int p3), (4, .int l4), (5, .int l5)] [] (wd s0.heap.size sh S)) : ∀ (S : St) (l4 : Int32) (l5 : Int32) (l8 : Int32) (v0 : Int32), F_X5_findCuts_L120 sh f t p1 p3 k16 S l4 l5 l8 v0 = some r → V l s0 D (d + 1) 0 0 mX5_findCuts (fun v h => v = none ∧ h = wd s0.heap.size sh r) v_noX 120 [(0, .ref (s0.heap.size + t)), (1, .long p1), (3, .int p3), (4, .int l4), (5, .int l5), (8, .int l8)] [.int v0] (wd s0.heap.size sh S) := by
  intro S l4 l5 l8 v0 hF
  unfold F_X5_findCuts_L120 at hF
  refine V_istore dX5_findCuts_120 (by decide) ?_
  refine V_aload_n dX5_findCuts_122 rfl ?_
  obtain ⟨b1, hrb1, hF⟩ := bd hF
  obtain ⟨hb1, hF⟩ := gv_in hF
  replace hb1 := ckX3_ok hb1
  refine X_gR G dX5_findCuts_123 fX5_25 ht.1 rfl hrb1 ?_
  refine V_aload_n dX5_findCuts_126 rfl ?_
  refine V_lload_n dX5_findCuts_127 rfl ?_
  refine V_iload dX5_findCuts_128 rfl ?_
  obtain ⟨y2, hc, hF⟩ := bd hF
  refine V_callV G dX5_findCuts_130 kX5_149 (wd_at ht.1) ⟨by decide, rfl⟩ (s_X5_endsAt ht G hc (by omega)) rfl (Nat.le_of_ble_eq_true rfl) (fun _ _ _ q => q.elim) ?_
  rintro _ _ ⟨rfl, rfl⟩
  refine V_aload_n dX5_findCuts_133 rfl ?_
  refine X_gC G dX5_findCuts_134 fX5_12 ht.1 rfl ?_
  refine X_gC G dX5_findCuts_137 fX5_140 ht.2.1.1 rfl ?_
  refine V_iload dX5_findCuts_140 rfl ?_
  obtain ⟨hz, hF⟩ := gv_out hF
  refine X_iald dX5_findCuts_142 ht.2.1.2.1 hz ?_
  obtain ⟨y3, hc, hF⟩ := bd hF
  refine V_callV G dX5_findCuts_143 kX5_152 (wd_at hb1.1) ⟨by decide, rfl⟩ (s_X3_addCut hb1 G hc (by omega)) rfl (Nat.le_of_ble_eq_true rfl) (fun _ _ _ q => q.elim) ?_
  rintro _ _ ⟨rfl, rfl⟩
  obtain ⟨x4, qx4, hF⟩ := bnd_g hF
  refine B_iinc (v := 1) qx4 dX5_findCuts_146 rfl (by decide) (by decide) ?_
  refine V_goto (tgt := 16) dX5_findCuts_149 (by decide) ?_
  exact V_lv' (hk16 _ _ _ hF) (v_all_c rfl (v_all_c rfl (v_all_c rfl (v_all_c rfl (v_all_c rfl v_all_n)))))
set_option maxRecDepth 100000 in
set_option maxHeartbeats 4000000 in
theorem w_X5_findCuts_L16 {l : Launch} {s0 : State} {D : va_G} {a0 : Array Value} {sh : List Sh} {f : Nat} {t : Nat} {p1 : Int64} {p3 : Int32} (ht : isX5 sh t) {r : St} {d : Nat} (G : GC l s0 D a0) (hd : 3 ≤ d + 1) : ∀ (n : Nat) (S : St) (l4 : Int32) (l5 : Int32), F_X5_findCuts_L16 sh f t p1 p3 n S l4 l5 = some r → V l s0 D (d + 1) 0 0 mX5_findCuts (fun v h => v = none ∧ h = wd s0.heap.size sh r) v_noX 16 [(0, .ref (s0.heap.size + t)), (1, .long p1), (3, .int p3), (4, .int l4), (5, .int l5)] [] (wd s0.heap.size sh S) := by
  intro n
  induction n with
  | zero => intro S l4 l5 hF; cases hF
  | succ n ih =>
    intro S l4 l5 hF
    unfold F_X5_findCuts_L16 at hF
    refine V_iload dX5_findCuts_16 rfl ?_
    refine V_aload_n dX5_findCuts_18 rfl ?_
    refine X_gC G dX5_findCuts_19 fX5_12 ht.1 rfl ?_
    refine X_gI G dX5_findCuts_22 fX5_63 ht.2.1.1 rfl ?_
    refine V_icmp_ge (tgt := 152) dX5_findCuts_25 (by decide) (fun c => ?_) (fun c => ?_)
    · replace hF := (if_pos c).symm.trans hF
      cases hF
      exact V_return dX5_findCuts_152 rfl ⟨rfl, rfl⟩
    · replace hF := (if_neg c).symm.trans hF
      refine V_lload_n dX5_findCuts_28 rfl ?_
      refine V_iload dX5_findCuts_29 rfl ?_
      obtain ⟨y1, hc, hF⟩ := bd hF
      refine V_callS dX5_findCuts_31 kX5_116 (s_X4_partnerIn G hc (by omega)) rfl (Nat.le_of_ble_eq_true rfl) (fun _ _ _ q => q.elim) ?_
      rintro _ _ ⟨rfl, rfl⟩
      refine V_istore dX5_findCuts_34 (by decide) ?_
      refine V_aload_n dX5_findCuts_36 rfl ?_
      refine X_gC G dX5_findCuts_37 fX5_12 ht.1 rfl ?_
      refine V_iload dX5_findCuts_40 rfl ?_
      refine V_iload dX5_findCuts_42 rfl ?_
      obtain ⟨y2, hc, hF⟩ := bd hF
      refine V_callV G dX5_findCuts_44 kX5_132 (wd_at ht.2.1.1) ⟨by decide, rfl⟩ (s_X4_link ht.2.1 G hc (by omega)) rfl (Nat.le_of_ble_eq_true rfl) (fun _ _ _ q => q.elim) ?_
      rintro _ _ ⟨rfl, rfl⟩
      refine V_istore dX5_findCuts_47 (by decide) ?_
      refine V_iload dX5_findCuts_49 rfl ?_
      refine V_iload dX5_findCuts_51 rfl ?_
      refine V_icmp_le (tgt := 146) dX5_findCuts_53 (by decide) (fun c => ?_) (fun c => ?_)
      · replace hF := (if_pos c).symm.trans hF
        obtain ⟨x3, qx3, hF⟩ := bnd_g hF
        refine B_iinc (v := 1) qx3 dX5_findCuts_146 rfl (by decide) (by decide) ?_
        refine V_goto (tgt := 16) dX5_findCuts_149 (by decide) ?_
        exact V_lv' (ih _ _ _ hF) (v_all_c rfl (v_all_c rfl (v_all_c rfl (v_all_c rfl (v_all_c rfl v_all_n)))))
      · replace hF := (if_neg c).symm.trans hF
        refine V_iload dX5_findCuts_56 rfl ?_
        refine V_if_eq (tgt := 146) dX5_findCuts_58 (by decide) (fun c => ?_) (fun c => ?_)
        · replace hF := (if_pos c).symm.trans hF
          obtain ⟨x4, qx4, hF⟩ := bnd_g hF
          refine B_iinc (v := 1) qx4 dX5_findCuts_146 rfl (by decide) (by decide) ?_
          refine V_goto (tgt := 16) dX5_findCuts_149 (by decide) ?_
          exact V_lv' (ih _ _ _ hF) (v_all_c rfl (v_all_c rfl (v_all_c rfl (v_all_c rfl (v_all_c rfl v_all_n)))))
        · replace hF := (if_neg c).symm.trans hF
          refine V_iload dX5_findCuts_61 rfl ?_
          refine V_iload dX5_findCuts_63 rfl ?_
          refine V_iand dX5_findCuts_65 ?_
          refine V_if_ne (tgt := 146) dX5_findCuts_66 (by decide) (fun c => ?_) (fun c => ?_)
          · replace hF := (if_neg c).symm.trans hF
            obtain ⟨x5, qx5, hF⟩ := bnd_g hF
            refine B_iinc (v := 1) qx5 dX5_findCuts_146 rfl (by decide) (by decide) ?_
            refine V_goto (tgt := 16) dX5_findCuts_149 (by decide) ?_
            exact V_lv' (ih _ _ _ hF) (v_all_c rfl (v_all_c rfl (v_all_c rfl (v_all_c rfl (v_all_c rfl v_all_n)))))
          · replace hF := (if_pos c).symm.trans hF
            refine V_aload_n dX5_findCuts_69 rfl ?_
            refine X_gC G dX5_findCuts_70 fX5_12 ht.1 rfl ?_
            refine V_iload_n dX5_findCuts_73 rfl ?_
            refine V_iload dX5_findCuts_74 rfl ?_
            refine V_iconst (v := -1) dX5_findCuts_76 (by decide) ?_
            refine V_ixor dX5_findCuts_77 ?_
            refine V_iand dX5_findCuts_78 ?_
            obtain ⟨y6, hc, hF⟩ := bd hF
            refine V_callV G dX5_findCuts_79 kX5_86 (wd_at ht.2.1.1) ⟨by decide, rfl⟩ (s_X4_hangs ht.2.1 G hc (by omega)) rfl (Nat.le_of_ble_eq_true rfl) (fun _ _ _ q => q.elim) ?_
            rintro _ _ ⟨rfl, rfl⟩
            refine V_if_ne (tgt := 146) dX5_findCuts_82 (by decide) (fun c => ?_) (fun c => ?_)
            · replace hF := (if_neg c).symm.trans hF
              obtain ⟨x7, qx7, hF⟩ := bnd_g hF
              refine B_iinc (v := 1) qx7 dX5_findCuts_146 rfl (by decide) (by decide) ?_
              refine V_goto (tgt := 16) dX5_findCuts_149 (by decide) ?_
              exact V_lv' (ih _ _ _ hF) (v_all_c rfl (v_all_c rfl (v_all_c rfl (v_all_c rfl (v_all_c rfl v_all_n)))))
            · replace hF := (if_pos c).symm.trans hF
              refine V_aload_n dX5_findCuts_85 rfl ?_
              refine V_lload_n dX5_findCuts_86 rfl ?_
              refine V_iload_n dX5_findCuts_87 rfl ?_
              refine V_iload dX5_findCuts_88 rfl ?_
              refine V_iconst (v := -1) dX5_findCuts_90 (by decide) ?_
              refine V_ixor dX5_findCuts_91 ?_
              refine V_iand dX5_findCuts_92 ?_
              obtain ⟨y8, hc, hF⟩ := bd hF
              refine V_callV G dX5_findCuts_93 kX5_146 (wd_at ht.1) ⟨by decide, rfl⟩ (s_X5_reach ht G hc (by omega)) rfl (Nat.le_of_ble_eq_true rfl) (fun _ _ _ q => q.elim) ?_
              rintro _ _ ⟨rfl, rfl⟩
              refine V_istore dX5_findCuts_96 (by decide) ?_
              refine V_iload dX5_findCuts_98 rfl ?_
              refine V_aload_n dX5_findCuts_100 rfl ?_
              refine X_gC G dX5_findCuts_101 fX5_12 ht.1 rfl ?_
              refine V_iload dX5_findCuts_104 rfl ?_
              obtain ⟨y9, hc, hF⟩ := bd hF
              refine V_callV G dX5_findCuts_106 kX5_71 (wd_at ht.2.1.1) ⟨by decide, rfl⟩ (s_X4_pointBit ht.2.1 G hc (by omega)) rfl (Nat.le_of_ble_eq_true rfl) (fun _ _ _ q => q.elim) ?_
              rintro _ _ ⟨rfl, rfl⟩
              refine V_iand dX5_findCuts_109 ?_
              refine V_if_eq (tgt := 118) dX5_findCuts_110 (by decide) (fun c => ?_) (fun c => ?_)
              · replace hF := (if_pos c).symm.trans hF
                refine V_iload dX5_findCuts_118 rfl ?_
                exact V_lv' (w_X5_findCuts_L120 ht G hd ih _ _ _ _ _ hF) (v_all_c rfl (v_all_c rfl (v_all_c rfl (v_all_c rfl (v_all_c rfl (v_all_c rfl v_all_n))))))
              · replace hF := (if_neg c).symm.trans hF
                refine V_iload dX5_findCuts_113 rfl ?_
                refine V_goto (tgt := 120) dX5_findCuts_115 (by decide) ?_
                exact V_lv' (w_X5_findCuts_L120 ht G hd ih _ _ _ _ _ hF) (v_all_c rfl (v_all_c rfl (v_all_c rfl (v_all_c rfl (v_all_c rfl (v_all_c rfl v_all_n))))))
set_option maxRecDepth 100000 in
set_option maxHeartbeats 4000000 in
theorem s_X5_findCuts {l : Launch} {s0 : State} {D : va_G} {a0 : Array Value} {sh : List Sh} {f : Nat} {S : St} {t : Nat} {p1 : Int64} {p3 : Int32} (ht : isX5 sh t) {r : St} (G : GC l s0 D a0) (hF : F_X5_findCuts sh f S t p1 p3 = some r) {d : Nat} (hd : 3 ≤ d) : Sp l s0 D d 0 0 mX5_findCuts (fun v h => v = none ∧ h = wd s0.heap.size sh r) v_noX [.ref (s0.heap.size + t), .long p1, .int p3] (wd s0.heap.size sh S) := by
  obtain ⟨d, rfl⟩ : ∃ e, d = e + 1 := ⟨d - 1, by omega⟩
  refine Sp.of (by decide +kernel) rfl (Nat.le_of_ble_eq_true rfl) ?_
  unfold F_X5_findCuts at hF
  refine V_aload_n dX5_findCuts_0 rfl ?_
  refine V_lload_n dX5_findCuts_1 rfl ?_
  obtain ⟨y1, hc, hF⟩ := bd hF
  refine V_callV G dX5_findCuts_2 kX5_143 (wd_at ht.1) ⟨by decide, rfl⟩ (s_X5_doubledLinks ht G hc (by omega)) rfl (Nat.le_of_ble_eq_true rfl) (fun _ _ _ q => q.elim) ?_
  rintro _ _ ⟨rfl, rfl⟩
  refine V_istore dX5_findCuts_5 (by decide) ?_
  refine V_aload_n dX5_findCuts_7 rfl ?_
  refine X_gC G dX5_findCuts_8 fX5_12 ht.1 rfl ?_
  refine X_gI G dX5_findCuts_11 fX5_129 ht.2.1.1 rfl ?_
  obtain ⟨x2, qx2, hF⟩ := bnd_g hF
  refine B_istore qx2 dX5_findCuts_14 (by decide) ?_
  exact V_lv' (w_X5_findCuts_L16 ht G hd f _ _ _ hF) (v_all_c rfl (v_all_c rfl (v_all_c rfl (v_all_c rfl (v_all_c rfl v_all_n)))))
set_option maxRecDepth 100000 in
set_option maxHeartbeats 4000000 in
theorem w_X5_keepIfLeast_L29 {l : Launch} {s0 : State} {D : va_G} {a0 : Array Value} {sh : List Sh} {f : Nat} {t : Nat} {p1 : Nat} {p2 : Int64} {p4 : Int32} (ht : isX5 sh t) (hp1 : isX0 sh p1) {r : St} {d : Nat} (G : GC l s0 D a0) (hd : 4 ≤ d + 1) : ∀ (n : Nat) (S : St) (l5 : Int32) (l6 : Int32) (l7 : Int32) (l8 : Int32), F_X5_keepIfLeast_L29 sh f t p1 p2 p4 n S l5 l6 l7 l8 = some r → V l s0 D (d + 1) 0 0 mX5_keepIfLeast (fun v h => v = none ∧ h = wd s0.heap.size sh r) v_noX 29 [(0, .ref (s0.heap.size + t)), (1, .ref (s0.heap.size + p1)), (2, .long p2), (4, .int p4), (5, .int l5), (6, .int l6), (7, .int l7), (8, .int l8)] [] (wd s0.heap.size sh S) := by
  intro n
  induction n with
  | zero => intro S l5 l6 l7 l8 hF; cases hF
  | succ n ih =>
    intro S l5 l6 l7 l8 hF
    unfold F_X5_keepIfLeast_L29 at hF
    refine V_iload dX5_keepIfLeast_29 rfl ?_
    refine V_bipush (v := 6) dX5_keepIfLeast_31 (by decide) ?_
    refine V_icmp_ge (tgt := 94) dX5_keepIfLeast_33 (by decide) (fun c => ?_) (fun c => ?_)
    · replace hF := (if_pos c).symm.trans hF
      refine V_aload_n dX5_keepIfLeast_94 rfl ?_
      obtain ⟨b1, hrb1, hF⟩ := bd hF
      obtain ⟨hb1, hF⟩ := gv_in hF
      replace hb1 := ckX3_ok hb1
      refine X_gR G dX5_keepIfLeast_95 fX5_25 ht.1 rfl hrb1 ?_
      refine V_lload_n dX5_keepIfLeast_98 rfl ?_
      refine V_iload dX5_keepIfLeast_99 rfl ?_
      refine V_iload dX5_keepIfLeast_101 rfl ?_
      refine V_imul dX5_keepIfLeast_103 ?_
      refine V_iload dX5_keepIfLeast_104 rfl ?_
      obtain ⟨y2, hc, hF⟩ := bd hF
      refine V_callV G dX5_keepIfLeast_106 kX5_101 (wd_at hb1.1) ⟨by decide, rfl⟩ (s_X3_add hb1 G hc (by omega)) rfl (Nat.le_of_ble_eq_true rfl) (fun _ _ _ q => q.elim) ?_
      rintro _ _ ⟨rfl, rfl⟩
      refine V_aload_n dX5_keepIfLeast_109 rfl ?_
      obtain ⟨b3, hrb3, hF⟩ := bd hF
      obtain ⟨hb3, hF⟩ := gv_in hF
      replace hb3 := ckX3_ok hb3
      refine X_gR G dX5_keepIfLeast_110 fX5_25 ht.1 rfl hrb3 ?_
      refine X_gI G dX5_keepIfLeast_113 fX5_33 hb3.1 rfl ?_
      refine V_if_ne (tgt := 139) dX5_keepIfLeast_116 (by decide) (fun c => ?_) (fun c => ?_)
      · replace hF := (if_neg c).symm.trans hF
        cases hF
        exact V_return dX5_keepIfLeast_139 rfl ⟨rfl, rfl⟩
      · replace hF := (if_pos c).symm.trans hF
        refine V_aload_n dX5_keepIfLeast_119 rfl ?_
        obtain ⟨b4, hrb4, hF⟩ := bd hF
        obtain ⟨hb4, hF⟩ := gv_in hF
        replace hb4 := ckX3_ok hb4
        refine X_gR G dX5_keepIfLeast_120 fX5_25 ht.1 rfl hrb4 ?_
        refine V_aload_n dX5_keepIfLeast_123 rfl ?_
        refine V_aload_n dX5_keepIfLeast_124 rfl ?_
        refine V_lload_n dX5_keepIfLeast_125 rfl ?_
        obtain ⟨y5, hc, hF⟩ := bd hF
        refine V_callV G dX5_keepIfLeast_126 kX5_105 (wd_at ht.1) ⟨by decide, rfl⟩ (s_X5_heaviesOf ht hp1 G hc (by omega)) rfl (Nat.le_of_ble_eq_true rfl) (fun _ _ _ q => q.elim) ?_
        rintro _ _ ⟨rfl, rfl⟩
        obtain ⟨y6, hc, hF⟩ := bd hF
        refine V_callV G dX5_keepIfLeast_129 kX5_109 (wd_at hb4.1) ⟨by decide, rfl⟩ (s_X3_setHeavies hb4 G hc (by omega)) rfl (Nat.le_of_ble_eq_true rfl) (fun _ _ _ q => q.elim) ?_
        rintro _ _ ⟨rfl, rfl⟩
        refine V_aload_n dX5_keepIfLeast_132 rfl ?_
        refine V_lload_n dX5_keepIfLeast_133 rfl ?_
        refine V_iload dX5_keepIfLeast_134 rfl ?_
        obtain ⟨y7, hc, hF⟩ := bd hF
        refine V_callV G dX5_keepIfLeast_136 kX5_112 (wd_at ht.1) ⟨by decide, rfl⟩ (s_X5_findCuts ht G hc (by omega)) rfl (Nat.le_of_ble_eq_true rfl) (fun _ _ _ q => q.elim) ?_
        rintro _ _ ⟨rfl, rfl⟩
        cases hF
        exact V_return dX5_keepIfLeast_139 rfl ⟨rfl, rfl⟩
    · replace hF := (if_neg c).symm.trans hF
      refine V_aload_n dX5_keepIfLeast_36 rfl ?_
      refine X_gC G dX5_keepIfLeast_37 fX5_12 ht.1 rfl ?_
      refine V_iload dX5_keepIfLeast_40 rfl ?_
      obtain ⟨y8, hc, hF⟩ := bd hF
      refine V_callV G dX5_keepIfLeast_42 kX5_90 (wd_at ht.2.1.1) ⟨by decide, rfl⟩ (s_X4_keepsRules ht.2.1 G hc (by omega)) rfl (Nat.le_of_ble_eq_true rfl) (fun _ _ _ q => q.elim) ?_
      rintro _ _ ⟨rfl, rfl⟩
      refine V_if_eq (tgt := 88) dX5_keepIfLeast_45 (by decide) (fun c => ?_) (fun c => ?_)
      · replace hF := (if_pos c).symm.trans hF
        obtain ⟨x9, qx9, hF⟩ := bnd_g hF
        refine B_iinc (v := 1) qx9 dX5_keepIfLeast_88 rfl (by decide) (by decide) ?_
        refine V_goto (tgt := 29) dX5_keepIfLeast_91 (by decide) ?_
        exact V_lv' (ih _ _ _ _ _ hF) (v_all_c rfl (v_all_c rfl (v_all_c rfl (v_all_c rfl (v_all_c rfl (v_all_c rfl (v_all_c rfl (v_all_c rfl v_all_n))))))))
      · replace hF := (if_neg c).symm.trans hF
        refine V_aload_n dX5_keepIfLeast_48 rfl ?_
        refine V_lload_n dX5_keepIfLeast_49 rfl ?_
        refine V_iload dX5_keepIfLeast_50 rfl ?_
        obtain ⟨y10, hc, hF⟩ := bd hF
        refine V_callV G dX5_keepIfLeast_52 kX5_93 (wd_at ht.1) ⟨by decide, rfl⟩ (s_X5_tally ht G hc (by omega)) rfl (Nat.le_of_ble_eq_true rfl) (fun _ _ _ q => q.elim) ?_
        rintro _ _ ⟨rfl, rfl⟩
        obtain ⟨x11, qx11, hF⟩ := bnd_g hF
        refine B_istore qx11 dX5_keepIfLeast_55 (by decide) ?_
        refine V_aload_n dX5_keepIfLeast_57 rfl ?_
        obtain ⟨y12, hc, hF⟩ := bd hF
        refine V_callV G dX5_keepIfLeast_58 kX5_97 (wd_at ht.1) ⟨by decide, rfl⟩ (s_X5_leastTallied ht G hc (by omega)) rfl (Nat.le_of_ble_eq_true rfl) (fun _ _ _ q => q.elim) ?_
        rintro _ _ ⟨rfl, rfl⟩
        obtain ⟨x13, qx13, hF⟩ := bnd_g hF
        refine B_lstore qx13 dX5_keepIfLeast_61 (by decide) ?_
        refine V_lload dX5_keepIfLeast_63 rfl ?_
        refine V_lload_n dX5_keepIfLeast_65 rfl ?_
        refine V_lcmp dX5_keepIfLeast_66 ?_
        refine V_if_ge (tgt := 71) dX5_keepIfLeast_67 (by decide) (fun c => ?_) (fun c => ?_)
        · replace hF := (if_pos c).symm.trans hF
          refine V_iload dX5_keepIfLeast_71 rfl ?_
          refine V_lload dX5_keepIfLeast_73 rfl ?_
          refine V_lload_n dX5_keepIfLeast_75 rfl ?_
          refine V_lcmp dX5_keepIfLeast_76 ?_
          refine V_if_ne (tgt := 84) dX5_keepIfLeast_77 (by decide) (fun c => ?_) (fun c => ?_)
          · replace hF := (if_neg c).symm.trans hF
            refine V_iconst (v := 0) dX5_keepIfLeast_84 (by decide) ?_
            refine V_iadd dX5_keepIfLeast_85 ?_
            obtain ⟨x14, qx14, hF⟩ := bnd_g hF
            refine B_istore qx14 dX5_keepIfLeast_86 (by decide) ?_
            obtain ⟨x15, qx15, hF⟩ := bnd_g hF
            refine B_iinc (v := 1) qx15 dX5_keepIfLeast_88 rfl (by decide) (by decide) ?_
            refine V_goto (tgt := 29) dX5_keepIfLeast_91 (by decide) ?_
            exact V_lv' (ih _ _ _ _ _ hF) (v_all_c rfl (v_all_c rfl (v_all_c rfl (v_all_c rfl (v_all_c rfl (v_all_c rfl (v_all_c rfl (v_all_c rfl v_all_n))))))))
          · replace hF := (if_pos c).symm.trans hF
            refine V_iconst (v := 1) dX5_keepIfLeast_80 (by decide) ?_
            refine V_goto (tgt := 85) dX5_keepIfLeast_81 (by decide) ?_
            refine V_iadd dX5_keepIfLeast_85 ?_
            obtain ⟨x16, qx16, hF⟩ := bnd_g hF
            refine B_istore qx16 dX5_keepIfLeast_86 (by decide) ?_
            obtain ⟨x17, qx17, hF⟩ := bnd_g hF
            refine B_iinc (v := 1) qx17 dX5_keepIfLeast_88 rfl (by decide) (by decide) ?_
            refine V_goto (tgt := 29) dX5_keepIfLeast_91 (by decide) ?_
            exact V_lv' (ih _ _ _ _ _ hF) (v_all_c rfl (v_all_c rfl (v_all_c rfl (v_all_c rfl (v_all_c rfl (v_all_c rfl (v_all_c rfl (v_all_c rfl v_all_n))))))))
        · replace hF := (if_neg c).symm.trans hF
          cases hF
          exact V_return dX5_keepIfLeast_70 rfl ⟨rfl, rfl⟩
set_option maxRecDepth 100000 in
set_option maxHeartbeats 4000000 in
theorem s_X5_keepIfLeast {l : Launch} {s0 : State} {D : va_G} {a0 : Array Value} {sh : List Sh} {f : Nat} {S : St} {t : Nat} {p1 : Nat} {p2 : Int64} {p4 : Int32} (ht : isX5 sh t) (hp1 : isX0 sh p1) {r : St} (G : GC l s0 D a0) (hF : F_X5_keepIfLeast sh f S t p1 p2 p4 = some r) {d : Nat} (hd : 4 ≤ d) : Sp l s0 D d 0 0 mX5_keepIfLeast (fun v h => v = none ∧ h = wd s0.heap.size sh r) v_noX [.ref (s0.heap.size + t), .ref (s0.heap.size + p1), .long p2, .int p4] (wd s0.heap.size sh S) := by
  obtain ⟨d, rfl⟩ : ∃ e, d = e + 1 := ⟨d - 1, by omega⟩
  refine Sp.of (by decide +kernel) rfl (Nat.le_of_ble_eq_true rfl) ?_
  unfold F_X5_keepIfLeast at hF
  refine V_aload_n dX5_keepIfLeast_0 rfl ?_
  refine V_lload_n dX5_keepIfLeast_1 rfl ?_
  obtain ⟨y1, hc, hF⟩ := bd hF
  refine V_callV G dX5_keepIfLeast_2 kX5_82 (wd_at ht.1) ⟨by decide, rfl⟩ (s_X5_linksOf ht G hc (by omega)) rfl (Nat.le_of_ble_eq_true rfl) (fun _ _ _ q => q.elim) ?_
  rintro _ _ ⟨rfl, rfl⟩
  refine V_istore dX5_keepIfLeast_5 (by decide) ?_
  refine V_aload_n dX5_keepIfLeast_7 rfl ?_
  refine X_gC G dX5_keepIfLeast_8 fX5_12 ht.1 rfl ?_
  refine V_iload dX5_keepIfLeast_11 rfl ?_
  obtain ⟨y2, hc, hF⟩ := bd hF
  refine V_callV G dX5_keepIfLeast_13 kX5_86 (wd_at ht.2.1.1) ⟨by decide, rfl⟩ (s_X4_hangs ht.2.1 G hc (by omega)) rfl (Nat.le_of_ble_eq_true rfl) (fun _ _ _ q => q.elim) ?_
  rintro _ _ ⟨rfl, rfl⟩
  refine V_if_ne (tgt := 20) dX5_keepIfLeast_16 (by decide) (fun c => ?_) (fun c => ?_)
  · replace hF := (if_neg c).symm.trans hF
    refine V_iconst (v := 0) dX5_keepIfLeast_20 (by decide) ?_
    refine V_istore dX5_keepIfLeast_21 (by decide) ?_
    refine V_iconst (v := 1) dX5_keepIfLeast_23 (by decide) ?_
    refine V_istore dX5_keepIfLeast_24 (by decide) ?_
    refine V_iconst (v := 0) dX5_keepIfLeast_26 (by decide) ?_
    refine V_istore dX5_keepIfLeast_27 (by decide) ?_
    exact V_lv' (w_X5_keepIfLeast_L29 ht hp1 G hd f _ _ _ _ _ hF) (v_all_c rfl (v_all_c rfl (v_all_c rfl (v_all_c rfl (v_all_c rfl (v_all_c rfl (v_all_c rfl (v_all_c rfl v_all_n))))))))
  · replace hF := (if_pos c).symm.trans hF
    cases hF
    exact V_return dX5_keepIfLeast_19 rfl ⟨rfl, rfl⟩
set_option maxRecDepth 100000 in
set_option maxHeartbeats 4000000 in
theorem w_X5_draw_L51 {l : Launch} {s0 : State} {D : va_G} {a0 : Array Value} {sh : List Sh} {f : Nat} {t : Nat} {p1 : Nat} {p2 : Int32} {p3 : Int32} {p4 : Int64} {p6 : Int32} {p7 : Int32} (ht : isX5 sh t) (hp1 : isX0 sh p1) {r : St} {d : Nat} (G : GC l s0 D a0) (hd : 5 ≤ d + 1) {kR : St → Nat → Nat → Int32 → Int32 → Int64 → Int32 → Int32 → Option (St)} (hkR : ∀ (S : St) (t : Nat) (p1 : Nat) (p2 : Int32) (p3 : Int32) (p4 : Int64) (p6 : Int32) (p7 : Int32) (r : St), isX5 sh t → isX0 sh p1 → kR S t p1 p2 p3 p4 p6 p7 = some r → Sp l s0 D d 0 0 mX5_draw (fun v h => v = none ∧ h = wd s0.heap.size sh r) v_noX [.ref (s0.heap.size + t), .ref (s0.heap.size + p1), .int p2, .int p3, .long p4, .int p6, .int p7] (wd s0.heap.size sh S)) : ∀ (n : Nat) (S : St) (l8 : Int32) (l9 : Int32) (l10 : Int32), F_X5_draw_L51 sh f t p1 p2 p3 p4 p6 p7 kR n S l8 l9 l10 = some r → V l s0 D (d + 1) 0 0 mX5_draw (fun v h => v = none ∧ h = wd s0.heap.size sh r) v_noX 51 [(0, .ref (s0.heap.size + t)), (1, .ref (s0.heap.size + p1)), (3, .int p3), (4, .long p4), (6, .int p6), (7, .int p7), (8, .int l8), (9, .int l9), (10, .int l10)] [] (wd s0.heap.size sh S) := by
  intro n
  induction n with
  | zero => intro S l8 l9 l10 hF; cases hF
  | succ n ih =>
    intro S l8 l9 l10 hF
    unfold F_X5_draw_L51 at hF
    refine V_iload dX5_draw_51 rfl ?_
    refine V_aload_n dX5_draw_53 rfl ?_
    refine X_gC G dX5_draw_54 fX5_12 ht.1 rfl ?_
    refine X_gI G dX5_draw_57 fX5_63 ht.2.1.1 rfl ?_
    refine V_icmp_ge (tgt := 159) dX5_draw_60 (by decide) (fun c => ?_) (fun c => ?_)
    · replace hF := (if_pos c).symm.trans hF
      cases hF
      exact V_return dX5_draw_159 rfl ⟨rfl, rfl⟩
    · replace hF := (if_neg c).symm.trans hF
      refine V_aload_n dX5_draw_63 rfl ?_
      refine X_gC G dX5_draw_64 fX5_12 ht.1 rfl ?_
      refine V_iload dX5_draw_67 rfl ?_
      refine V_iload dX5_draw_69 rfl ?_
      refine V_iload dX5_draw_71 rfl ?_
      refine V_iload_n dX5_draw_73 rfl ?_
      obtain ⟨y1, hc, hF⟩ := bd hF
      refine V_callV G dX5_draw_74 kX5_67 (wd_at ht.2.1.1) ⟨by decide, rfl⟩ (s_X4_mayLead ht.2.1 G hc (by omega)) rfl (Nat.le_of_ble_eq_true rfl) (fun _ _ _ q => q.elim) ?_
      rintro _ _ ⟨rfl, rfl⟩
      refine V_if_eq (tgt := 153) dX5_draw_77 (by decide) (fun c => ?_) (fun c => ?_)
      · replace hF := (if_pos c).symm.trans hF
        obtain ⟨x2, qx2, hF⟩ := bnd_g hF
        refine B_iinc (v := 1) qx2 dX5_draw_153 rfl (by decide) (by decide) ?_
        refine V_goto (tgt := 51) dX5_draw_156 (by decide) ?_
        exact V_lv' (ih _ _ _ _ hF) (v_all_c rfl (v_all_c rfl (v_all_c rfl (v_all_c rfl (v_all_c rfl (v_all_c rfl (v_all_c rfl (v_all_c rfl (v_all_c rfl v_all_n)))))))))
      · replace hF := (if_neg c).symm.trans hF
        refine V_aload_n dX5_draw_80 rfl ?_
        refine V_aload_n dX5_draw_81 rfl ?_
        refine V_iload dX5_draw_82 rfl ?_
        refine V_iconst (v := 1) dX5_draw_84 (by decide) ?_
        refine V_iload dX5_draw_85 rfl ?_
        refine V_ishl dX5_draw_87 ?_
        refine V_iconst (v := -1) dX5_draw_88 (by decide) ?_
        refine V_ixor dX5_draw_89 ?_
        refine V_iand dX5_draw_90 ?_
        refine V_iload_n dX5_draw_91 rfl ?_
        refine V_aload_n dX5_draw_92 rfl ?_
        refine X_gC G dX5_draw_93 fX5_12 ht.1 rfl ?_
        refine V_iload dX5_draw_96 rfl ?_
        obtain ⟨y3, hc, hF⟩ := bd hF
        refine V_callV G dX5_draw_98 kX5_71 (wd_at ht.2.1.1) ⟨by decide, rfl⟩ (s_X4_pointBit ht.2.1 G hc (by omega)) rfl (Nat.le_of_ble_eq_true rfl) (fun _ _ _ q => q.elim) ?_
        rintro _ _ ⟨rfl, rfl⟩
        refine V_ior dX5_draw_101 ?_
        refine V_aload_n dX5_draw_102 rfl ?_
        refine X_gC G dX5_draw_103 fX5_12 ht.1 rfl ?_
        refine V_iload dX5_draw_106 rfl ?_
        obtain ⟨y4, hc, hF⟩ := bd hF
        refine V_callV G dX5_draw_108 kX5_71 (wd_at ht.2.1.1) ⟨by decide, rfl⟩ (s_X4_pointBit ht.2.1 G hc (by omega)) rfl (Nat.le_of_ble_eq_true rfl) (fun _ _ _ q => q.elim) ?_
        rintro _ _ ⟨rfl, rfl⟩
        refine V_ior dX5_draw_111 ?_
        refine V_lload dX5_draw_112 rfl ?_
        refine V_iload dX5_draw_114 rfl ?_
        refine V_iload dX5_draw_116 rfl ?_
        obtain ⟨y5, hc, hF⟩ := bd hF
        refine V_callS dX5_draw_118 kX5_74 (s_X4_inRow G hc (by omega)) rfl (Nat.le_of_ble_eq_true rfl) (fun _ _ _ q => q.elim) ?_
        rintro _ _ ⟨rfl, rfl⟩
        refine V_lor dX5_draw_121 ?_
        refine V_iload dX5_draw_122 rfl ?_
        refine V_iload dX5_draw_124 rfl ?_
        obtain ⟨y6, hc, hF⟩ := bd hF
        refine V_callS dX5_draw_126 kX5_74 (s_X4_inRow G hc (by omega)) rfl (Nat.le_of_ble_eq_true rfl) (fun _ _ _ q => q.elim) ?_
        rintro _ _ ⟨rfl, rfl⟩
        refine V_lor dX5_draw_129 ?_
        refine V_iload dX5_draw_130 rfl ?_
        refine V_aload_n dX5_draw_132 rfl ?_
        refine X_gC G dX5_draw_133 fX5_12 ht.1 rfl ?_
        refine V_iload dX5_draw_136 rfl ?_
        refine V_iload dX5_draw_138 rfl ?_
        refine V_iload dX5_draw_140 rfl ?_
        obtain ⟨y7, hc, hF⟩ := bd hF
        refine V_callV G dX5_draw_142 kX5_78 (wd_at ht.2.1.1) ⟨by decide, rfl⟩ (s_X4_signOf ht.2.1 G hc (by omega)) rfl (Nat.le_of_ble_eq_true rfl) (fun _ _ _ q => q.elim) ?_
        rintro _ _ ⟨rfl, rfl⟩
        refine V_imul dX5_draw_145 ?_
        refine V_iload dX5_draw_146 rfl ?_
        refine V_iconst (v := 1) dX5_draw_148 (by decide) ?_
        refine V_iadd dX5_draw_149 ?_
        obtain ⟨y8, hc, hF⟩ := bd hF
        refine V_callV G dX5_draw_150 kX5_49 (wd_at ht.1) ⟨by decide, rfl⟩ (hkR _ _ _ _ _ _ _ _ _ ht hp1 hc) rfl (Nat.le_of_ble_eq_true rfl) (fun _ _ _ q => q.elim) ?_
        rintro _ _ ⟨rfl, rfl⟩
        obtain ⟨x9, qx9, hF⟩ := bnd_g hF
        refine B_iinc (v := 1) qx9 dX5_draw_153 rfl (by decide) (by decide) ?_
        refine V_goto (tgt := 51) dX5_draw_156 (by decide) ?_
        exact V_lv' (ih _ _ _ _ hF) (v_all_c rfl (v_all_c rfl (v_all_c rfl (v_all_c rfl (v_all_c rfl (v_all_c rfl (v_all_c rfl (v_all_c rfl (v_all_c rfl v_all_n)))))))))
set_option maxRecDepth 100000 in
set_option maxHeartbeats 4000000 in
theorem s_X5_draw {l : Launch} {s0 : State} {D : va_G} {a0 : Array Value} {sh : List Sh} {f : Nat} (G : GC l s0 D a0) : ∀ (e : Nat) (S : St) (t : Nat) (p1 : Nat) (p2 : Int32) (p3 : Int32) (p4 : Int64) (p6 : Int32) (p7 : Int32) (r : St), isX5 sh t → isX0 sh p1 → F_X5_draw sh f e S t p1 p2 p3 p4 p6 p7 = some r → ∀ d : Nat, 5 + e ≤ d + 1 → Sp l s0 D d 0 0 mX5_draw (fun v h => v = none ∧ h = wd s0.heap.size sh r) v_noX [.ref (s0.heap.size + t), .ref (s0.heap.size + p1), .int p2, .int p3, .long p4, .int p6, .int p7] (wd s0.heap.size sh S) := by
  intro e
  induction e with
  | zero => intro S t p1 p2 p3 p4 p6 p7 r ht hp1 hF d hd; cases hF
  | succ e ih =>
    intro S t p1 p2 p3 p4 p6 p7 r ht hp1 hF d hd
    obtain ⟨d, rfl⟩ : ∃ z, d = z + 1 := ⟨d - 1, by omega⟩
    have hkR : ∀ (S : St) (t : Nat) (p1 : Nat) (p2 : Int32) (p3 : Int32) (p4 : Int64) (p6 : Int32) (p7 : Int32) (r : St), isX5 sh t → isX0 sh p1 → (F_X5_draw sh f e) S t p1 p2 p3 p4 p6 p7 = some r → Sp l s0 D d 0 0 mX5_draw (fun v h => v = none ∧ h = wd s0.heap.size sh r) v_noX [.ref (s0.heap.size + t), .ref (s0.heap.size + p1), .int p2, .int p3, .long p4, .int p6, .int p7] (wd s0.heap.size sh S) := fun S t p1 p2 p3 p4 p6 p7 r ht hp1 hF => ih S t p1 p2 p3 p4 p6 p7 r ht hp1 hF d (by omega)
    refine Sp.of (by decide +kernel) rfl (Nat.le_of_ble_eq_true rfl) ?_
    unfold F_X5_draw at hF
    refine V_iload_n dX5_draw_0 rfl ?_
    refine V_if_ne (tgt := 14) dX5_draw_1 (by decide) (fun c => ?_) (fun c => ?_)
    · replace hF := (if_neg c).symm.trans hF
      refine V_iload dX5_draw_14 rfl ?_
      refine V_bipush (v := 6) dX5_draw_16 (by decide) ?_
      refine V_icmp_ge (tgt := 31) dX5_draw_18 (by decide) (fun c => ?_) (fun c => ?_)
      · replace hF := (if_pos c).symm.trans hF
        cases hF
        exact V_return dX5_draw_31 rfl ⟨rfl, rfl⟩
      · replace hF := (if_neg c).symm.trans hF
        refine V_aload_n dX5_draw_21 rfl ?_
        obtain ⟨b1, hrb1, hF⟩ := bd hF
        obtain ⟨hb1, hF⟩ := gv_in hF
        replace hb1 := ckX3_ok hb1
        refine X_gR G dX5_draw_22 fX5_25 ht.1 rfl hrb1 ?_
        refine X_gI G dX5_draw_25 fX5_33 hb1.1 rfl ?_
        refine V_if_eq (tgt := 32) dX5_draw_28 (by decide) (fun c => ?_) (fun c => ?_)
        · replace hF := (if_pos c).symm.trans hF
          refine V_iload_n dX5_draw_32 rfl ?_
          obtain ⟨y2, hc, hF⟩ := bd hF
          refine V_callS dX5_draw_33 kX5_57 (s_J6_numberOfTrailingZeros_0f7a4 G hc (by omega)) rfl (Nat.le_of_ble_eq_true rfl) (fun _ _ _ q => q.elim) ?_
          rintro _ _ ⟨rfl, rfl⟩
          refine V_istore dX5_draw_36 (by decide) ?_
          refine V_iload_n dX5_draw_38 rfl ?_
          refine V_iload_n dX5_draw_39 rfl ?_
          refine V_iconst (v := 1) dX5_draw_40 (by decide) ?_
          refine V_isub dX5_draw_41 ?_
          refine V_iand dX5_draw_42 ?_
          obtain ⟨x3, qx3, hF⟩ := bnd_g hF
          refine B_istore qx3 dX5_draw_43 (by decide) ?_
          refine V_iload dX5_draw_45 rfl ?_
          refine V_iconst (v := 1) dX5_draw_47 (by decide) ?_
          refine V_iadd dX5_draw_48 ?_
          obtain ⟨x4, qx4, hF⟩ := bnd_g hF
          refine B_istore qx4 dX5_draw_49 (by decide) ?_
          exact V_lv' (w_X5_draw_L51 ht hp1 G (by omega) hkR f _ _ _ _ hF) (v_all_c rfl (v_all_c rfl (v_all_c rfl (v_all_c rfl (v_all_c rfl (v_all_c rfl (v_all_c rfl (v_all_c rfl (v_all_c rfl v_all_n)))))))))
        · replace hF := (if_neg c).symm.trans hF
          cases hF
          exact V_return dX5_draw_31 rfl ⟨rfl, rfl⟩
    · replace hF := (if_pos c).symm.trans hF
      refine V_aload_n dX5_draw_4 rfl ?_
      refine V_aload_n dX5_draw_5 rfl ?_
      refine V_lload dX5_draw_6 rfl ?_
      refine V_iload dX5_draw_8 rfl ?_
      obtain ⟨y5, hc, hF⟩ := bd hF
      refine V_callV G dX5_draw_10 kX5_53 (wd_at ht.1) ⟨by decide, rfl⟩ (s_X5_keepIfLeast ht hp1 G hc (by omega)) rfl (Nat.le_of_ble_eq_true rfl) (fun _ _ _ q => q.elim) ?_
      rintro _ _ ⟨rfl, rfl⟩
      cases hF
      exact V_return dX5_draw_13 rfl ⟨rfl, rfl⟩

