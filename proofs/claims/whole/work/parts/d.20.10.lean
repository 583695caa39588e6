set_option maxRecDepth 100000 in
set_option maxHeartbeats 4000000 in
theorem s_X3_clear {l : Launch} {s0 : State} {D : va_G} {a0 : Array Value} {sh : List Sh} {f : Nat} {S : St} {t : Nat} {p1 : Int32} (ht : isX3 sh t) {r : St} (G : GC l s0 D a0) (hF : F_X3_clear sh f S t p1 = some r) {d : Nat} (hd : 1 ≤ d) : Sp l s0 D d 0 0 mX3_clear (fun v h => v = none ∧ h = wd s0.heap.size sh r) v_noX [.ref (s0.heap.size + t), .int p1] (wd s0.heap.size sh S) := by
  obtain ⟨d, rfl⟩ : ∃ e, d = e + 1 := ⟨d - 1, by omega⟩
  refine Sp.of (by decide +kernel) rfl (Nat.le_of_ble_eq_true rfl) ?_
  unfold F_X3_clear at hF
  refine V_aload_n dX3_clear_0 rfl ?_
  refine V_iload_n dX3_clear_1 rfl ?_
  refine X_pI G dX3_clear_2 gX3_62 ht.1 rfl rfl rfl ?_
  obtain ⟨S1, qS1, hF⟩ := bnd_g hF
  refine V_eqS qS1 ?_
  refine V_aload_n dX3_clear_5 rfl ?_
  refine V_iconst (v := 0) dX3_clear_6 (by decide) ?_
  refine X_pI G dX3_clear_7 gX3_66 ht.1 rfl rfl rfl ?_
  obtain ⟨S2, qS2, hF⟩ := bnd_g hF
  refine V_eqS qS2 ?_
  refine V_aload_n dX3_clear_10 rfl ?_
  refine V_iconst (v := 0) dX3_clear_11 (by decide) ?_
  refine X_pI G dX3_clear_12 gX3_69 ht.1 rfl rfl rfl ?_
  obtain ⟨S3, qS3, hF⟩ := bnd_g hF
  refine V_eqS qS3 ?_
  refine V_aload_n dX3_clear_15 rfl ?_
  refine V_iconst (v := 0) dX3_clear_16 (by decide) ?_
  refine X_pI G dX3_clear_17 gX3_72 ht.1 rfl (by decide) (by decide) ?_
  obtain ⟨S4, qS4, hF⟩ := bnd_g hF
  refine V_eqS qS4 ?_
  cases hF
  exact V_return dX3_clear_20 rfl ⟨rfl, rfl⟩
set_option maxRecDepth 100000 in
set_option maxHeartbeats 4000000 in
theorem s_X3_ruleIn {l : Launch} {s0 : State} {D : va_G} {a0 : Array Value} {sh : List Sh} {f : Nat} {S : St} {p0 : Int32} {p1 : Int32} {p2 : Int32} {r : Int32} (G : GC l s0 D a0) (hF : F_X3_ruleIn sh f S p0 p1 p2 = some r) {d : Nat} (hd : 1 ≤ d) : Sp l s0 D d 0 0 mX3_ruleIn (fun v h => v = some (.int r) ∧ h = wd s0.heap.size sh S) v_noX [.int p0, .int p1, .int p2] (wd s0.heap.size sh S) := by
  obtain ⟨d, rfl⟩ : ∃ e, d = e + 1 := ⟨d - 1, by omega⟩
  refine Sp.of (by decide +kernel) rfl (Nat.le_of_ble_eq_true rfl) ?_
  unfold F_X3_ruleIn at hF
  refine V_iload_n dX3_ruleIn_0 rfl ?_
  refine V_iconst (v := 2) dX3_ruleIn_1 (by decide) ?_
  refine V_iload_n dX3_ruleIn_2 rfl ?_
  refine V_iconst (v := 1) dX3_ruleIn_3 (by decide) ?_
  refine V_isub dX3_ruleIn_4 ?_
  refine V_iload_n dX3_ruleIn_5 rfl ?_
  refine V_isub dX3_ruleIn_6 ?_
  refine V_imul dX3_ruleIn_7 ?_
  refine V_ishr dX3_ruleIn_8 ?_
  refine V_iconst (v := 3) dX3_ruleIn_9 (by decide) ?_
  refine V_iand dX3_ruleIn_10 ?_
  cases hF
  exact V_ireturn dX3_ruleIn_11 rfl rfl ⟨rfl, rfl⟩
set_option maxRecDepth 100000 in
set_option maxHeartbeats 4000000 in
theorem w_X3_openGroup_L80 {l : Launch} {s0 : State} {D : va_G} {a0 : Array Value} {sh : List Sh} {f : Nat} {t : Nat} {p1 : Nat} {p2 : Nat} {p3 : Int32} (ht : isX3 sh t) (hp1 : isX0 sh p1) (hp2 : isX4 sh p2) {r : Int32 × St} {d : Nat} (G : GC l s0 D a0) (hd : 1 ≤ d + 1) : ∀ (S : St) (l4 : Int32) (l5 : Int32), F_X3_openGroup_L80 sh f t p1 p2 p3 S l4 l5 = some r → V l s0 D (d + 1) 0 0 mX3_openGroup (fun v h => v = some (.int r.1) ∧ h = wd s0.heap.size sh r.2) v_noX 80 [(0, .ref (s0.heap.size + t)), (2, .ref (s0.heap.size + p2)), (3, .int p3), (4, .int l4), (5, .int l5)] [] (wd s0.heap.size sh S) := by
  intro S l4 l5 hF
  unfold F_X3_openGroup_L80 at hF
  refine V_aload_n dX3_openGroup_80 rfl ?_
  refine X_gC G dX3_openGroup_81 fX3_34 ht.1 rfl ?_
  refine V_aload_n dX3_openGroup_84 rfl ?_
  refine X_gI G dX3_openGroup_85 fX3_69 ht.1 rfl ?_
  refine V_iload_n dX3_openGroup_88 rfl ?_
  obtain ⟨hz, hF⟩ := gv_out hF
  refine X_iast dX3_openGroup_89 ht.2.2.2.2.2.2.2.2.1 hz ?_
  obtain ⟨S1, qS1, hF⟩ := bnd_g hF
  refine V_eqS qS1 ?_
  refine V_aload_n dX3_openGroup_90 rfl ?_
  refine X_gC G dX3_openGroup_91 fX3_37 ht.1 rfl ?_
  refine V_aload_n dX3_openGroup_94 rfl ?_
  refine X_gI G dX3_openGroup_95 fX3_69 ht.1 rfl ?_
  refine V_aload_n dX3_openGroup_98 rfl ?_
  refine X_gI G dX3_openGroup_99 fX3_87 hp2.1 rfl ?_
  obtain ⟨hz, hF⟩ := gv_out hF
  refine X_iast dX3_openGroup_102 ht.2.2.2.2.2.2.2.2.2.1 hz ?_
  obtain ⟨S2, qS2, hF⟩ := bnd_g hF
  refine V_eqS qS2 ?_
  refine V_aload_n dX3_openGroup_103 rfl ?_
  refine X_gC G dX3_openGroup_104 fX3_40 ht.1 rfl ?_
  refine V_aload_n dX3_openGroup_107 rfl ?_
  refine X_gI G dX3_openGroup_108 fX3_69 ht.1 rfl ?_
  refine V_aload_n dX3_openGroup_111 rfl ?_
  refine X_gI G dX3_openGroup_112 fX3_87 hp2.1 rfl ?_
  refine V_iconst (v := 2) dX3_openGroup_115 (by decide) ?_
  refine V_idiv dX3_openGroup_116 (by decide) ?_
  refine V_aload_n dX3_openGroup_117 rfl ?_
  refine X_gI G dX3_openGroup_118 fX3_89 hp2.1 rfl ?_
  refine V_isub dX3_openGroup_121 ?_
  obtain ⟨hz, hF⟩ := gv_out hF
  refine X_iast dX3_openGroup_122 ht.2.2.2.2.2.2.2.2.2.2.1 hz ?_
  obtain ⟨S3, qS3, hF⟩ := bnd_g hF
  refine V_eqS qS3 ?_
  refine V_aload_n dX3_openGroup_123 rfl ?_
  refine X_gC G dX3_openGroup_124 fX3_43 ht.1 rfl ?_
  refine V_aload_n dX3_openGroup_127 rfl ?_
  refine X_gI G dX3_openGroup_128 fX3_69 ht.1 rfl ?_
  refine V_aload_n dX3_openGroup_131 rfl ?_
  refine X_gI G dX3_openGroup_132 fX3_92 hp2.1 rfl ?_
  obtain ⟨hz, hF⟩ := gv_out hF
  refine X_iast dX3_openGroup_135 ht.2.2.2.2.2.2.2.2.2.2.2.1 hz ?_
  obtain ⟨S4, qS4, hF⟩ := bnd_g hF
  refine V_eqS qS4 ?_
  refine V_aload_n dX3_openGroup_136 rfl ?_
  refine X_gC G dX3_openGroup_137 fX3_46 ht.1 rfl ?_
  refine V_aload_n dX3_openGroup_140 rfl ?_
  refine X_gI G dX3_openGroup_141 fX3_69 ht.1 rfl ?_
  refine V_iconst (v := 1) dX3_openGroup_144 (by decide) ?_
  obtain ⟨hz, hF⟩ := gv_out hF
  refine X_iast dX3_openGroup_145 ht.2.2.2.2.2.2.2.2.2.2.2.2.1 hz ?_
  obtain ⟨S5, qS5, hF⟩ := bnd_g hF
  refine V_eqS qS5 ?_
  refine V_aload_n dX3_openGroup_146 rfl ?_
  refine X_gC G dX3_openGroup_147 fX3_49 ht.1 rfl ?_
  refine V_aload_n dX3_openGroup_150 rfl ?_
  refine X_gI G dX3_openGroup_151 fX3_69 ht.1 rfl ?_
  refine V_iload dX3_openGroup_154 rfl ?_
  obtain ⟨hz, hF⟩ := gv_out hF
  refine X_iast dX3_openGroup_156 ht.2.2.2.2.2.2.2.2.2.2.2.2.2.1 hz ?_
  obtain ⟨S6, qS6, hF⟩ := bnd_g hF
  refine V_eqS qS6 ?_
  refine V_aload_n dX3_openGroup_157 rfl ?_
  refine X_gC G dX3_openGroup_158 fX3_52 ht.1 rfl ?_
  refine V_aload_n dX3_openGroup_161 rfl ?_
  refine X_gI G dX3_openGroup_162 fX3_69 ht.1 rfl ?_
  refine V_iload dX3_openGroup_165 rfl ?_
  obtain ⟨hz, hF⟩ := gv_out hF
  refine X_iast dX3_openGroup_167 ht.2.2.2.2.2.2.2.2.2.2.2.2.2.2.1 hz ?_
  obtain ⟨S7, qS7, hF⟩ := bnd_g hF
  refine V_eqS qS7 ?_
  refine V_aload_n dX3_openGroup_168 rfl ?_
  refine X_gC G dX3_openGroup_169 fX3_55 ht.1 rfl ?_
  refine V_aload_n dX3_openGroup_172 rfl ?_
  refine X_gI G dX3_openGroup_173 fX3_69 ht.1 rfl ?_
  refine V_iconst (v := 0) dX3_openGroup_176 (by decide) ?_
  obtain ⟨hz, hF⟩ := gv_out hF
  refine X_iast dX3_openGroup_177 ht.2.2.2.2.2.2.2.2.2.2.2.2.2.2.2.1 hz ?_
  obtain ⟨S8, qS8, hF⟩ := bnd_g hF
  refine V_eqS qS8 ?_
  refine V_aload_n dX3_openGroup_178 rfl ?_
  refine X_gC G dX3_openGroup_179 fX3_58 ht.1 rfl ?_
  refine V_aload_n dX3_openGroup_182 rfl ?_
  refine X_gI G dX3_openGroup_183 fX3_69 ht.1 rfl ?_
  refine V_iconst (v := 0) dX3_openGroup_186 (by decide) ?_
  obtain ⟨hz, hF⟩ := gv_out hF
  refine X_zast dX3_openGroup_187 ht.2.2.2.2.2.2.2.2.2.2.2.2.2.2.2.2 hz ?_
  obtain ⟨S9, qS9, hF⟩ := bnd_g hF
  refine V_eqS qS9 ?_
  refine V_aload_n dX3_openGroup_188 rfl ?_
  refine V_dup dX3_openGroup_189 rfl ?_
  refine X_gI G dX3_openGroup_190 fX3_69 ht.1 rfl ?_
  refine V_iconst (v := 1) dX3_openGroup_193 (by decide) ?_
  refine V_iadd dX3_openGroup_194 ?_
  refine X_pI G dX3_openGroup_195 gX3_69 ht.1 rfl rfl rfl ?_
  obtain ⟨S10, qS10, hF⟩ := bnd_g hF
  refine V_eqS qS10 ?_
  refine V_iconst (v := 1) dX3_openGroup_198 (by decide) ?_
  cases hF
  exact V_ireturn dX3_openGroup_199 rfl (by decide) ⟨rfl, rfl⟩
set_option maxRecDepth 100000 in
set_option maxHeartbeats 4000000 in
theorem w_X3_openGroup_L20 {l : Launch} {s0 : State} {D : va_G} {a0 : Array Value} {sh : List Sh} {f : Nat} {t : Nat} {p1 : Nat} {p2 : Nat} {p3 : Int32} (ht : isX3 sh t) (hp1 : isX0 sh p1) (hp2 : isX4 sh p2) {r : Int32 × St} {d : Nat} (G : GC l s0 D a0) (hd : 1 ≤ d + 1) : ∀ (n : Nat) (S : St) (l4 : Int32) (l5 : Int32) (l6 : Int32), F_X3_openGroup_L20 sh f t p1 p2 p3 n S l4 l5 l6 = some r → V l s0 D (d + 1) 0 0 mX3_openGroup (fun v h => v = some (.int r.1) ∧ h = wd s0.heap.size sh r.2) v_noX 20 [(0, .ref (s0.heap.size + t)), (1, .ref (s0.heap.size + p1)), (2, .ref (s0.heap.size + p2)), (3, .int p3), (4, .int l4), (5, .int l5), (6, .int l6)] [] (wd s0.heap.size sh S) := by
  intro n
  induction n with
  | zero => intro S l4 l5 l6 hF; cases hF
  | succ n ih =>
    intro S l4 l5 l6 hF
    unfold F_X3_openGroup_L20 at hF
    refine V_iload dX3_openGroup_20 rfl ?_
    refine V_aload_n dX3_openGroup_22 rfl ?_
    refine X_gI G dX3_openGroup_23 fX3_62 ht.1 rfl ?_
    refine V_icmp_ge (tgt := 80) dX3_openGroup_26 (by decide) (fun c => ?_) (fun c => ?_)
    · replace hF := (if_pos c).symm.trans hF
      exact V_lv' (w_X3_openGroup_L80 ht hp1 hp2 G hd _ _ _ hF) (v_all_c rfl (v_all_c rfl (v_all_c rfl (v_all_c rfl (v_all_c rfl v_all_n)))))
    · replace hF := (if_neg c).symm.trans hF
      refine V_iload dX3_openGroup_29 rfl ?_
      refine V_iconst (v := 3) dX3_openGroup_31 (by decide) ?_
      refine V_icmp_ge (tgt := 80) dX3_openGroup_32 (by decide) (fun c => ?_) (fun c => ?_)
      · replace hF := (if_pos c).symm.trans hF
        exact V_lv' (w_X3_openGroup_L80 ht hp1 hp2 G hd _ _ _ hF) (v_all_c rfl (v_all_c rfl (v_all_c rfl (v_all_c rfl (v_all_c rfl v_all_n)))))
      · replace hF := (if_neg c).symm.trans hF
        refine V_aload_n dX3_openGroup_35 rfl ?_
        refine X_gC G dX3_openGroup_36 fX3_76 hp2.1 rfl ?_
        refine V_iload dX3_openGroup_39 rfl ?_
        obtain ⟨hz, hF⟩ := gv_out hF
        refine X_iald dX3_openGroup_41 hp2.2.2.2.2.2.2.1 hz ?_
        obtain ⟨x1, qx1, hF⟩ := bnd_g hF
        refine B_istore qx1 dX3_openGroup_42 (by decide) ?_
        refine V_iload dX3_openGroup_44 rfl ?_
        refine V_aload_n dX3_openGroup_46 rfl ?_
        refine X_gC G dX3_openGroup_47 fX3_81 hp1.1 rfl ?_
        refine V_iload dX3_openGroup_50 rfl ?_
        obtain ⟨hz, hF⟩ := gv_out hF
        refine X_iald dX3_openGroup_52 hp1.2.2.2.2.2.2.2.1 hz ?_
        refine V_imul dX3_openGroup_53 ?_
        obtain ⟨x2, qx2, hF⟩ := bnd_g hF
        refine B_istore qx2 dX3_openGroup_54 (by decide) ?_
        refine V_iload dX3_openGroup_56 rfl ?_
        refine V_iconst (v := 1) dX3_openGroup_58 (by decide) ?_
        refine V_iconst (v := 2) dX3_openGroup_59 (by decide) ?_
        refine V_iconst (v := 2) dX3_openGroup_60 (by decide) ?_
        refine V_aload_n dX3_openGroup_61 rfl ?_
        refine X_gC G dX3_openGroup_62 fX3_84 hp1.1 rfl ?_
        refine V_iload dX3_openGroup_65 rfl ?_
        obtain ⟨hz, hF⟩ := gv_out hF
        refine X_iald dX3_openGroup_67 hp1.2.2.2.2.2.2.2.2.1 hz ?_
        refine V_isub dX3_openGroup_68 ?_
        refine V_imul dX3_openGroup_69 ?_
        refine V_ishl dX3_openGroup_70 ?_
        refine V_iadd dX3_openGroup_71 ?_
        obtain ⟨x3, qx3, hF⟩ := bnd_g hF
        refine B_istore qx3 dX3_openGroup_72 (by decide) ?_
        obtain ⟨x4, qx4, hF⟩ := bnd_g hF
        refine B_iinc (v := 1) qx4 dX3_openGroup_74 rfl (by decide) (by decide) ?_
        refine V_goto (tgt := 20) dX3_openGroup_77 (by decide) ?_
        exact V_lv' (ih _ _ _ _ hF) (v_all_c rfl (v_all_c rfl (v_all_c rfl (v_all_c rfl (v_all_c rfl (v_all_c rfl (v_all_c rfl v_all_n)))))))
set_option maxRecDepth 100000 in
set_option maxHeartbeats 4000000 in
theorem s_X3_openGroup {l : Launch} {s0 : State} {D : va_G} {a0 : Array Value} {sh : List Sh} {f : Nat} {S : St} {t : Nat} {p1 : Nat} {p2 : Nat} {p3 : Int32} (ht : isX3 sh t) (hp1 : isX0 sh p1) (hp2 : isX4 sh p2) {r : Int32 × St} (G : GC l s0 D a0) (hF : F_X3_openGroup sh f S t p1 p2 p3 = some r) {d : Nat} (hd : 1 ≤ d) : Sp l s0 D d 0 0 mX3_openGroup (fun v h => v = some (.int r.1) ∧ h = wd s0.heap.size sh r.2) v_noX [.ref (s0.heap.size + t), .ref (s0.heap.size + p1), .ref (s0.heap.size + p2), .int p3] (wd s0.heap.size sh S) := by
  obtain ⟨d, rfl⟩ : ∃ e, d = e + 1 := ⟨d - 1, by omega⟩
  refine Sp.of (by decide +kernel) rfl (Nat.le_of_ble_eq_true rfl) ?_
  unfold F_X3_openGroup at hF
  refine V_aload_n dX3_openGroup_0 rfl ?_
  refine X_gI G dX3_openGroup_1 fX3_69 ht.1 rfl ?_
  refine V_bipush (v := 20) dX3_openGroup_4 (by decide) ?_
  refine V_icmp_lt (tgt := 11) dX3_openGroup_6 (by decide) (fun c => ?_) (fun c => ?_)
  · replace hF := (if_pos c).symm.trans hF
    refine V_iconst (v := 1) dX3_openGroup_11 (by decide) ?_
    refine V_istore dX3_openGroup_12 (by decide) ?_
    refine V_iconst (v := 0) dX3_openGroup_14 (by decide) ?_
    refine V_istore dX3_openGroup_15 (by decide) ?_
    refine V_iconst (v := 0) dX3_openGroup_17 (by decide) ?_
    refine V_istore dX3_openGroup_18 (by decide) ?_
    exact V_lv' (w_X3_openGroup_L20 ht hp1 hp2 G hd f _ _ _ _ hF) (v_all_c rfl (v_all_c rfl (v_all_c rfl (v_all_c rfl (v_all_c rfl (v_all_c rfl (v_all_c rfl v_all_n)))))))
  · replace hF := (if_neg c).symm.trans hF
    refine V_iconst (v := 0) dX3_openGroup_9 (by decide) ?_
    cases hF
    exact V_ireturn dX3_openGroup_10 rfl (by decide) ⟨rfl, rfl⟩
set_option maxRecDepth 100000 in
set_option maxHeartbeats 4000000 in
theorem s_X3_add {l : Launch} {s0 : State} {D : va_G} {a0 : Array Value} {sh : List Sh} {f : Nat} {S : St} {t : Nat} {p1 : Int64} {p3 : Int32} {p4 : Int32} (ht : isX3 sh t) {r : St} (G : GC l s0 D a0) (hF : F_X3_add sh f S t p1 p3 p4 = some r) {d : Nat} (hd : 1 ≤ d) : Sp l s0 D d 0 0 mX3_add (fun v h => v = none ∧ h = wd s0.heap.size sh r) v_noX [.ref (s0.heap.size + t), .long p1, .int p3, .int p4] (wd s0.heap.size sh S) := by
  obtain ⟨d, rfl⟩ : ∃ e, d = e + 1 := ⟨d - 1, by omega⟩
  refine Sp.of (by decide +kernel) rfl (Nat.le_of_ble_eq_true rfl) ?_
  unfold F_X3_add at hF
  refine V_aload_n dX3_add_0 rfl ?_
  refine X_gI G dX3_add_1 fX3_66 ht.1 rfl ?_
  refine V_sipush (v := 200) dX3_add_4 (by decide) ?_
  refine V_icmp_ge (tgt := 17) dX3_add_7 (by decide) (fun c => ?_) (fun c => ?_)
  · replace hF := (if_pos c).symm.trans hF
    refine V_aload_n dX3_add_17 rfl ?_
    refine V_iconst (v := 1) dX3_add_18 (by decide) ?_
    refine X_pI G dX3_add_19 gX3_72 ht.1 rfl (by decide) (by decide) ?_
    obtain ⟨S1, qS1, hF⟩ := bnd_g hF
    refine V_eqS qS1 ?_
    cases hF
    exact V_return dX3_add_22 rfl ⟨rfl, rfl⟩
  · replace hF := (if_neg c).symm.trans hF
    refine V_aload_n dX3_add_10 rfl ?_
    refine X_gI G dX3_add_11 fX3_69 ht.1 rfl ?_
    refine V_if_ne (tgt := 23) dX3_add_14 (by decide) (fun c => ?_) (fun c => ?_)
    · replace hF := (if_neg c).symm.trans hF
      refine V_aload_n dX3_add_23 rfl ?_
      refine X_gC G dX3_add_24 fX3_9 ht.1 rfl ?_
      refine V_aload_n dX3_add_27 rfl ?_
      refine X_gI G dX3_add_28 fX3_66 ht.1 rfl ?_
      refine V_lload_n dX3_add_31 rfl ?_
      obtain ⟨hz, hF⟩ := gv_out hF
      refine X_last dX3_add_32 ht.2.1 hz ?_
      obtain ⟨S2, qS2, hF⟩ := bnd_g hF
      refine V_eqS qS2 ?_
      refine V_aload_n dX3_add_33 rfl ?_
      refine X_gC G dX3_add_34 fX3_15 ht.1 rfl ?_
      refine V_aload_n dX3_add_37 rfl ?_
      refine X_gI G dX3_add_38 fX3_66 ht.1 rfl ?_
      refine V_iload_n dX3_add_41 rfl ?_
      obtain ⟨hz, hF⟩ := gv_out hF
      refine X_iast dX3_add_42 ht.2.2.1 hz ?_
      obtain ⟨S3, qS3, hF⟩ := bnd_g hF
      refine V_eqS qS3 ?_
      refine V_aload_n dX3_add_43 rfl ?_
      refine X_gC G dX3_add_44 fX3_19 ht.1 rfl ?_
      refine V_aload_n dX3_add_47 rfl ?_
      refine X_gI G dX3_add_48 fX3_66 ht.1 rfl ?_
      refine V_iload dX3_add_51 rfl ?_
      obtain ⟨hz, hF⟩ := gv_out hF
      refine X_iast dX3_add_53 ht.2.2.2.1 hz ?_
      obtain ⟨S4, qS4, hF⟩ := bnd_g hF
      refine V_eqS qS4 ?_
      refine V_aload_n dX3_add_54 rfl ?_
      refine X_gC G dX3_add_55 fX3_22 ht.1 rfl ?_
      refine V_aload_n dX3_add_58 rfl ?_
      refine X_gI G dX3_add_59 fX3_66 ht.1 rfl ?_
      refine V_aload_n dX3_add_62 rfl ?_
      refine X_gI G dX3_add_63 fX3_69 ht.1 rfl ?_
      refine V_iconst (v := 1) dX3_add_66 (by decide) ?_
      refine V_isub dX3_add_67 ?_
      obtain ⟨hz, hF⟩ := gv_out hF
      refine X_iast dX3_add_68 ht.2.2.2.2.1 hz ?_
      obtain ⟨S5, qS5, hF⟩ := bnd_g hF
      refine V_eqS qS5 ?_
      refine V_aload_n dX3_add_69 rfl ?_
      refine X_gC G dX3_add_70 fX3_25 ht.1 rfl ?_
      refine V_aload_n dX3_add_73 rfl ?_
      refine X_gI G dX3_add_74 fX3_66 ht.1 rfl ?_
      refine V_iconst (v := 0) dX3_add_77 (by decide) ?_
      obtain ⟨hz, hF⟩ := gv_out hF
      refine X_iast dX3_add_78 ht.2.2.2.2.2.1 hz ?_
      obtain ⟨S6, qS6, hF⟩ := bnd_g hF
      refine V_eqS qS6 ?_
      refine V_aload_n dX3_add_79 rfl ?_
      refine V_dup dX3_add_80 rfl ?_
      refine X_gI G dX3_add_81 fX3_66 ht.1 rfl ?_
      refine V_iconst (v := 1) dX3_add_84 (by decide) ?_
      refine V_iadd dX3_add_85 ?_
      refine X_pI G dX3_add_86 gX3_66 ht.1 rfl rfl rfl ?_
      obtain ⟨S7, qS7, hF⟩ := bnd_g hF
      refine V_eqS qS7 ?_
      cases hF
      exact V_return dX3_add_89 rfl ⟨rfl, rfl⟩
    · replace hF := (if_pos c).symm.trans hF
      refine V_aload_n dX3_add_17 rfl ?_
      refine V_iconst (v := 1) dX3_add_18 (by decide) ?_
      refine X_pI G dX3_add_19 gX3_72 ht.1 rfl (by decide) (by decide) ?_
      obtain ⟨S8, qS8, hF⟩ := bnd_g hF
      refine V_eqS qS8 ?_
      cases hF
      exact V_return dX3_add_22 rfl ⟨rfl, rfl⟩
set_option maxRecDepth 100000 in
set_option maxHeartbeats 4000000 in
theorem s_X3_setHeavies {l : Launch} {s0 : State} {D : va_G} {a0 : Array Value} {sh : List Sh} {f : Nat} {S : St} {t : Nat} {p1 : Int32} (ht : isX3 sh t) {r : St} (G : GC l s0 D a0) (hF : F_X3_setHeavies sh f S t p1 = some r) {d : Nat} (hd : 1 ≤ d) : Sp l s0 D d 0 0 mX3_setHeavies (fun v h => v = none ∧ h = wd s0.heap.size sh r) v_noX [.ref (s0.heap.size + t), .int p1] (wd s0.heap.size sh S) := by
  obtain ⟨d, rfl⟩ : ∃ e, d = e + 1 := ⟨d - 1, by omega⟩
  refine Sp.of (by decide +kernel) rfl (Nat.le_of_ble_eq_true rfl) ?_
  unfold F_X3_setHeavies at hF
  refine V_aload_n dX3_setHeavies_0 rfl ?_
  refine X_gI G dX3_setHeavies_1 fX3_69 ht.1 rfl ?_
  refine V_if_le (tgt := 19) dX3_setHeavies_4 (by decide) (fun c => ?_) (fun c => ?_)
  · replace hF := (if_pos c).symm.trans hF
    cases hF
    exact V_return dX3_setHeavies_19 rfl ⟨rfl, rfl⟩
  · replace hF := (if_neg c).symm.trans hF
    refine V_aload_n dX3_setHeavies_7 rfl ?_
    refine X_gC G dX3_setHeavies_8 fX3_46 ht.1 rfl ?_
    refine V_aload_n dX3_setHeavies_11 rfl ?_
    refine X_gI G dX3_setHeavies_12 fX3_69 ht.1 rfl ?_
    refine V_iconst (v := 1) dX3_setHeavies_15 (by decide) ?_
    refine V_isub dX3_setHeavies_16 ?_
    refine V_iload_n dX3_setHeavies_17 rfl ?_
    obtain ⟨hz, hF⟩ := gv_out hF
    refine X_iast dX3_setHeavies_18 ht.2.2.2.2.2.2.2.2.2.2.2.2.1 hz ?_
    obtain ⟨S1, qS1, hF⟩ := bnd_g hF
    refine V_eqS qS1 ?_
    cases hF
    exact V_return dX3_setHeavies_19 rfl ⟨rfl, rfl⟩
set_option maxRecDepth 100000 in
set_option maxHeartbeats 4000000 in
theorem s_X3_addCut {l : Launch} {s0 : State} {D : va_G} {a0 : Array Value} {sh : List Sh} {f : Nat} {S : St} {t : Nat} {p1 : Int32} {p2 : Int32} (ht : isX3 sh t) {r : St} (G : GC l s0 D a0) (hF : F_X3_addCut sh f S t p1 p2 = some r) {d : Nat} (hd : 1 ≤ d) : Sp l s0 D d 0 0 mX3_addCut (fun v h => v = none ∧ h = wd s0.heap.size sh r) v_noX [.ref (s0.heap.size + t), .int p1, .int p2] (wd s0.heap.size sh S) := by
  obtain ⟨d, rfl⟩ : ∃ e, d = e + 1 := ⟨d - 1, by omega⟩
  refine Sp.of (by decide +kernel) rfl (Nat.le_of_ble_eq_true rfl) ?_
  unfold F_X3_addCut at hF
  refine V_aload_n dX3_addCut_0 rfl ?_
  refine X_gI G dX3_addCut_1 fX3_66 ht.1 rfl ?_
  refine V_if_le (tgt := 72) dX3_addCut_4 (by decide) (fun c => ?_) (fun c => ?_)
  · replace hF := (if_pos c).symm.trans hF
    cases hF
    exact V_return dX3_addCut_72 rfl ⟨rfl, rfl⟩
  · replace hF := (if_neg c).symm.trans hF
    refine V_aload_n dX3_addCut_7 rfl ?_
    refine X_gC G dX3_addCut_8 fX3_25 ht.1 rfl ?_
    refine V_aload_n dX3_addCut_11 rfl ?_
    refine X_gI G dX3_addCut_12 fX3_66 ht.1 rfl ?_
    refine V_iconst (v := 1) dX3_addCut_15 (by decide) ?_
    refine V_isub dX3_addCut_16 ?_
    obtain ⟨hz, hF⟩ := gv_out hF
    refine X_iald dX3_addCut_17 ht.2.2.2.2.2.1 hz ?_
    refine V_iconst (v := 2) dX3_addCut_18 (by decide) ?_
    refine V_icmp_ge (tgt := 72) dX3_addCut_19 (by decide) (fun c => ?_) (fun c => ?_)
    · replace hF := (if_pos c).symm.trans hF
      cases hF
      exact V_return dX3_addCut_72 rfl ⟨rfl, rfl⟩
    · replace hF := (if_neg c).symm.trans hF
      refine V_aload_n dX3_addCut_22 rfl ?_
      refine X_gI G dX3_addCut_23 fX3_66 ht.1 rfl ?_
      refine V_iconst (v := 1) dX3_addCut_26 (by decide) ?_
      refine V_isub dX3_addCut_27 ?_
      refine V_iconst (v := 2) dX3_addCut_28 (by decide) ?_
      refine V_imul dX3_addCut_29 ?_
      refine V_aload_n dX3_addCut_30 rfl ?_
      refine X_gC G dX3_addCut_31 fX3_25 ht.1 rfl ?_
      refine V_aload_n dX3_addCut_34 rfl ?_
      refine X_gI G dX3_addCut_35 fX3_66 ht.1 rfl ?_
      refine V_iconst (v := 1) dX3_addCut_38 (by decide) ?_
      refine V_isub dX3_addCut_39 ?_
      obtain ⟨hz, hF⟩ := gv_out hF
      refine X_iald dX3_addCut_40 ht.2.2.2.2.2.1 hz ?_
      refine V_iadd dX3_addCut_41 ?_
      obtain ⟨x1, qx1, hF⟩ := bnd_g hF
      refine B_istore_n qx1 dX3_addCut_42 (by decide) ?_
      refine V_aload_n dX3_addCut_43 rfl ?_
      refine X_gC G dX3_addCut_44 fX3_28 ht.1 rfl ?_
      refine V_iload_n dX3_addCut_47 rfl ?_
      refine V_iload_n dX3_addCut_48 rfl ?_
      obtain ⟨hz, hF⟩ := gv_out hF
      refine X_iast dX3_addCut_49 ht.2.2.2.2.2.2.1 hz ?_
      obtain ⟨S2, qS2, hF⟩ := bnd_g hF
      refine V_eqS qS2 ?_
      refine V_aload_n dX3_addCut_50 rfl ?_
      refine X_gC G dX3_addCut_51 fX3_31 ht.1 rfl ?_
      refine V_iload_n dX3_addCut_54 rfl ?_
      refine V_iload_n dX3_addCut_55 rfl ?_
      obtain ⟨hz, hF⟩ := gv_out hF
      refine X_iast dX3_addCut_56 ht.2.2.2.2.2.2.2.1 hz ?_
      obtain ⟨S3, qS3, hF⟩ := bnd_g hF
      refine V_eqS qS3 ?_
      refine V_aload_n dX3_addCut_57 rfl ?_
      refine X_gC G dX3_addCut_58 fX3_25 ht.1 rfl ?_
      refine V_aload_n dX3_addCut_61 rfl ?_
      refine X_gI G dX3_addCut_62 fX3_66 ht.1 rfl ?_
      refine V_iconst (v := 1) dX3_addCut_65 (by decide) ?_
      refine V_isub dX3_addCut_66 ?_
      refine V_dup2 dX3_addCut_67 rfl rfl ?_
      obtain ⟨hz, hF⟩ := gv_out hF
      refine X_iald dX3_addCut_68 ht.2.2.2.2.2.1 hz ?_
      refine V_iconst (v := 1) dX3_addCut_69 (by decide) ?_
      refine V_iadd dX3_addCut_70 ?_
      obtain ⟨hz, hF⟩ := gv_out hF
      refine X_iast dX3_addCut_71 ht.2.2.2.2.2.1 hz ?_
      obtain ⟨S4, qS4, hF⟩ := bnd_g hF
      refine V_eqS qS4 ?_
      cases hF
      exact V_return dX3_addCut_72 rfl ⟨rfl, rfl⟩
set_option maxRecDepth 100000 in
set_option maxHeartbeats 4000000 in
theorem s_X3_groupOf {l : Launch} {s0 : State} {D : va_G} {a0 : Array Value} {sh : List Sh} {f : Nat} {S : St} {t : Nat} {p1 : Int32} (ht : isX3 sh t) {r : Int32} (G : GC l s0 D a0) (hF : F_X3_groupOf sh f S t p1 = some r) {d : Nat} (hd : 1 ≤ d) : Sp l s0 D d 0 0 mX3_groupOf (fun v h => v = some (.int r) ∧ h = wd s0.heap.size sh S) v_noX [.ref (s0.heap.size + t), .int p1] (wd s0.heap.size sh S) := by
  obtain ⟨d, rfl⟩ : ∃ e, d = e + 1 := ⟨d - 1, by omega⟩
  refine Sp.of (by decide +kernel) rfl (Nat.le_of_ble_eq_true rfl) ?_
  unfold F_X3_groupOf at hF
  refine V_aload_n dX3_groupOf_0 rfl ?_
  refine X_gC G dX3_groupOf_1 fX3_22 ht.1 rfl ?_
  refine V_iload_n dX3_groupOf_4 rfl ?_
  obtain ⟨hz, hF⟩ := gv_out hF
  refine X_iald dX3_groupOf_5 ht.2.2.2.2.1 hz ?_
  cases hF
  exact V_ireturn dX3_groupOf_6 rfl rfl ⟨rfl, rfl⟩
set_option maxRecDepth 100000 in
set_option maxHeartbeats 4000000 in
theorem s_X3_codeOf {l : Launch} {s0 : State} {D : va_G} {a0 : Array Value} {sh : List Sh} {f : Nat} {S : St} {t : Nat} {p1 : Int32} (ht : isX3 sh t) {r : Int32} (G : GC l s0 D a0) (hF : F_X3_codeOf sh f S t p1 = some r) {d : Nat} (hd : 1 ≤ d) : Sp l s0 D d 0 0 mX3_codeOf (fun v h => v = some (.int r) ∧ h = wd s0.heap.size sh S) v_noX [.ref (s0.heap.size + t), .int p1] (wd s0.heap.size sh S) := by
  obtain ⟨d, rfl⟩ : ∃ e, d = e + 1 := ⟨d - 1, by omega⟩
  refine Sp.of (by decide +kernel) rfl (Nat.le_of_ble_eq_true rfl) ?_
  unfold F_X3_codeOf at hF
  refine V_aload_n dX3_codeOf_0 rfl ?_
  refine X_gC G dX3_codeOf_1 fX3_34 ht.1 rfl ?_
  refine V_aload_n dX3_codeOf_4 rfl ?_
  refine X_gC G dX3_codeOf_5 fX3_22 ht.1 rfl ?_
  refine V_iload_n dX3_codeOf_8 rfl ?_
  obtain ⟨hz, hF⟩ := gv_out hF
  refine X_iald dX3_codeOf_9 ht.2.2.2.2.1 hz ?_
  obtain ⟨hz, hF⟩ := gv_out hF
  refine X_iald dX3_codeOf_10 ht.2.2.2.2.2.2.2.2.1 hz ?_
  cases hF
  exact V_ireturn dX3_codeOf_11 rfl rfl ⟨rfl, rfl⟩
set_option maxRecDepth 100000 in
set_option maxHeartbeats 4000000 in
theorem s_X3_legsOf {l : Launch} {s0 : State} {D : va_G} {a0 : Array Value} {sh : List Sh} {f : Nat} {S : St} {t : Nat} {p1 : Int32} (ht : isX3 sh t) {r : Int32} (G : GC l s0 D a0) (hF : F_X3_legsOf sh f S t p1 = some r) {d : Nat} (hd : 1 ≤ d) : Sp l s0 D d 0 0 mX3_legsOf (fun v h => v = some (.int r) ∧ h = wd s0.heap.size sh S) v_noX [.ref (s0.heap.size + t), .int p1] (wd s0.heap.size sh S) := by
  obtain ⟨d, rfl⟩ : ∃ e, d = e + 1 := ⟨d - 1, by omega⟩
  refine Sp.of (by decide +kernel) rfl (Nat.le_of_ble_eq_true rfl) ?_
  unfold F_X3_legsOf at hF
  refine V_aload_n dX3_legsOf_0 rfl ?_
  refine X_gC G dX3_legsOf_1 fX3_37 ht.1 rfl ?_
  refine V_aload_n dX3_legsOf_4 rfl ?_
  refine X_gC G dX3_legsOf_5 fX3_22 ht.1 rfl ?_
  refine V_iload_n dX3_legsOf_8 rfl ?_
  obtain ⟨hz, hF⟩ := gv_out hF
  refine X_iald dX3_legsOf_9 ht.2.2.2.2.1 hz ?_
  obtain ⟨hz, hF⟩ := gv_out hF
  refine X_iald dX3_legsOf_10 ht.2.2.2.2.2.2.2.2.2.1 hz ?_
  cases hF
  exact V_ireturn dX3_legsOf_11 rfl rfl ⟨rfl, rfl⟩
set_option maxRecDepth 100000 in
set_option maxHeartbeats 4000000 in
theorem s_X3_ways {l : Launch} {s0 : State} {D : va_G} {a0 : Array Value} {sh : List Sh} {f : Nat} {S : St} {t : Nat} {p1 : Int32} (ht : isX3 sh t) {r : Int32} (G : GC l s0 D a0) (hF : F_X3_ways sh f S t p1 = some r) {d : Nat} (hd : 1 ≤ d) : Sp l s0 D d 0 0 mX3_ways (fun v h => v = some (.int r) ∧ h = wd s0.heap.size sh S) v_noX [.ref (s0.heap.size + t), .int p1] (wd s0.heap.size sh S) := by
  obtain ⟨d, rfl⟩ : ∃ e, d = e + 1 := ⟨d - 1, by omega⟩
  refine Sp.of (by decide +kernel) rfl (Nat.le_of_ble_eq_true rfl) ?_
  unfold F_X3_ways at hF
  refine V_aload_n dX3_ways_0 rfl ?_
  refine X_gC G dX3_ways_1 fX3_15 ht.1 rfl ?_
  refine V_iload_n dX3_ways_4 rfl ?_
  obtain ⟨hz, hF⟩ := gv_out hF
  refine X_iald dX3_ways_5 ht.2.2.1 hz ?_
  refine V_if_le (tgt := 30) dX3_ways_6 (by decide) (fun c => ?_) (fun c => ?_)
  · replace hF := (if_pos c).symm.trans hF
    refine V_iconst (v := 0) dX3_ways_30 (by decide) ?_
    cases hF
    exact V_ireturn dX3_ways_31 rfl rfl ⟨rfl, rfl⟩
  · replace hF := (if_neg c).symm.trans hF
    refine V_aload_n dX3_ways_9 rfl ?_
    refine X_gC G dX3_ways_10 fX3_43 ht.1 rfl ?_
    refine V_aload_n dX3_ways_13 rfl ?_
    refine X_gC G dX3_ways_14 fX3_22 ht.1 rfl ?_
    refine V_iload_n dX3_ways_17 rfl ?_
    obtain ⟨hz, hF⟩ := gv_out hF
    refine X_iald dX3_ways_18 ht.2.2.2.2.1 hz ?_
    obtain ⟨hz, hF⟩ := gv_out hF
    refine X_iald dX3_ways_19 ht.2.2.2.2.2.2.2.2.2.2.2.1 hz ?_
    refine V_aload_n dX3_ways_20 rfl ?_
    refine X_gC G dX3_ways_21 fX3_15 ht.1 rfl ?_
    refine V_iload_n dX3_ways_24 rfl ?_
    obtain ⟨hz, hF⟩ := gv_out hF
    refine X_iald dX3_ways_25 ht.2.2.1 hz ?_
    obtain ⟨hz, hF⟩ := gv_out hF
    refine V_idiv dX3_ways_26 hz ?_
    refine V_goto (tgt := 31) dX3_ways_27 (by decide) ?_
    cases hF
    exact V_ireturn dX3_ways_31 rfl rfl ⟨rfl, rfl⟩
set_option maxRecDepth 100000 in
set_option maxHeartbeats 4000000 in
theorem s_X3_loops {l : Launch} {s0 : State} {D : va_G} {a0 : Array Value} {sh : List Sh} {f : Nat} {S : St} {t : Nat} {p1 : Int32} (ht : isX3 sh t) {r : Int32} (G : GC l s0 D a0) (hF : F_X3_loops sh f S t p1 = some r) {d : Nat} (hd : 1 ≤ d) : Sp l s0 D d 0 0 mX3_loops (fun v h => v = some (.int r) ∧ h = wd s0.heap.size sh S) v_noX [.ref (s0.heap.size + t), .int p1] (wd s0.heap.size sh S) := by
  obtain ⟨d, rfl⟩ : ∃ e, d = e + 1 := ⟨d - 1, by omega⟩
  refine Sp.of (by decide +kernel) rfl (Nat.le_of_ble_eq_true rfl) ?_
  unfold F_X3_loops at hF
  refine V_aload_n dX3_loops_0 rfl ?_
  refine X_gC G dX3_loops_1 fX3_40 ht.1 rfl ?_
  refine V_aload_n dX3_loops_4 rfl ?_
  refine X_gC G dX3_loops_5 fX3_22 ht.1 rfl ?_
  refine V_iload_n dX3_loops_8 rfl ?_
  obtain ⟨hz, hF⟩ := gv_out hF
  refine X_iald dX3_loops_9 ht.2.2.2.2.1 hz ?_
  obtain ⟨hz, hF⟩ := gv_out hF
  refine X_iald dX3_loops_10 ht.2.2.2.2.2.2.2.2.2.2.1 hz ?_
  refine V_aload_n dX3_loops_11 rfl ?_
  refine X_gI G dX3_loops_12 fX3_62 ht.1 rfl ?_
  refine V_isub dX3_loops_15 ?_
  refine V_iconst (v := 1) dX3_loops_16 (by decide) ?_
  refine V_iadd dX3_loops_17 ?_
  cases hF
  exact V_ireturn dX3_loops_18 rfl rfl ⟨rfl, rfl⟩
set_option maxRecDepth 100000 in
set_option maxHeartbeats 4000000 in
theorem s_X3_ofDrawing {l : Launch} {s0 : State} {D : va_G} {a0 : Array Value} {sh : List Sh} {f : Nat} {S : St} {t : Nat} {p1 : Int32} {p2 : Int32} (ht : isX3 sh t) {r : Int32} (G : GC l s0 D a0) (hF : F_X3_ofDrawing sh f S t p1 p2 = some r) {d : Nat} (hd : 2 ≤ d) : Sp l s0 D d 0 0 mX3_ofDrawing (fun v h => v = some (.int r) ∧ h = wd s0.heap.size sh S) v_noX [.ref (s0.heap.size + t), .int p1, .int p2] (wd s0.heap.size sh S) := by
  obtain ⟨d, rfl⟩ : ∃ e, d = e + 1 := ⟨d - 1, by omega⟩
  refine Sp.of (by decide +kernel) rfl (Nat.le_of_ble_eq_true rfl) ?_
  unfold F_X3_ofDrawing at hF
  refine V_iload_n dX3_ofDrawing_0 rfl ?_
  by_cases c0 : p2 = (0 : Int32)
  · replace hF := (if_pos c0).symm.trans hF
    refine V_tableIn (off := 43) (tgt := 44) dX3_ofDrawing_1 (by rw [c0]; decide) (by rw [c0]; decide) (by rw [c0]; decide) (by decide) ?_
    refine V_iconst (v := 1) dX3_ofDrawing_44 (by decide) ?_
    cases hF
    exact V_ireturn dX3_ofDrawing_45 rfl rfl ⟨rfl, rfl⟩
  replace hF := (if_neg c0).symm.trans hF
  by_cases c1 : p2 = (1 : Int32)
  · replace hF := (if_pos c1).symm.trans hF
    refine V_tableIn (off := 45) (tgt := 46) dX3_ofDrawing_1 (by rw [c1]; decide) (by rw [c1]; decide) (by rw [c1]; decide) (by decide) ?_
    refine V_aload_n dX3_ofDrawing_46 rfl ?_
    refine X_gC G dX3_ofDrawing_47 fX3_15 ht.1 rfl ?_
    refine V_iload_n dX3_ofDrawing_50 rfl ?_
    obtain ⟨hz, hF⟩ := gv_out hF
    refine X_iald dX3_ofDrawing_51 ht.2.2.1 hz ?_
    cases hF
    exact V_ireturn dX3_ofDrawing_52 rfl rfl ⟨rfl, rfl⟩
  replace hF := (if_neg c1).symm.trans hF
  by_cases c2 : p2 = (2 : Int32)
  · replace hF := (if_pos c2).symm.trans hF
    refine V_tableIn (off := 52) (tgt := 53) dX3_ofDrawing_1 (by rw [c2]; decide) (by rw [c2]; decide) (by rw [c2]; decide) (by decide) ?_
    refine V_aload_n dX3_ofDrawing_53 rfl ?_
    refine X_gC G dX3_ofDrawing_54 fX3_19 ht.1 rfl ?_
    refine V_iload_n dX3_ofDrawing_57 rfl ?_
    obtain ⟨hz, hF⟩ := gv_out hF
    refine X_iald dX3_ofDrawing_58 ht.2.2.2.1 hz ?_
    cases hF
    exact V_ireturn dX3_ofDrawing_59 rfl rfl ⟨rfl, rfl⟩
  replace hF := (if_neg c2).symm.trans hF
  by_cases c3 : p2 = (3 : Int32)
  · replace hF := (if_pos c3).symm.trans hF
    refine V_tableIn (off := 59) (tgt := 60) dX3_ofDrawing_1 (by rw [c3]; decide) (by rw [c3]; decide) (by rw [c3]; decide) (by decide) ?_
    refine V_aload_n dX3_ofDrawing_60 rfl ?_
    refine V_iload_n dX3_ofDrawing_61 rfl ?_
    obtain ⟨y1, hc, hF⟩ := bd hF
    refine V_callV G dX3_ofDrawing_62 kX3_94 (wd_at ht.1) ⟨by decide, rfl⟩ (s_X3_loops ht G hc (by omega)) rfl (Nat.le_of_ble_eq_true rfl) (fun _ _ _ q => q.elim) ?_
    rintro _ _ ⟨rfl, rfl⟩
    cases hF
    exact V_ireturn dX3_ofDrawing_65 rfl rfl ⟨rfl, rfl⟩
  replace hF := (if_neg c3).symm.trans hF
  by_cases c4 : p2 = (4 : Int32)
  · replace hF := (if_pos c4).symm.trans hF
    refine V_tableIn (off := 65) (tgt := 66) dX3_ofDrawing_1 (by rw [c4]; decide) (by rw [c4]; decide) (by rw [c4]; decide) (by decide) ?_
    refine V_aload_n dX3_ofDrawing_66 rfl ?_
    refine X_gC G dX3_ofDrawing_67 fX3_25 ht.1 rfl ?_
    refine V_iload_n dX3_ofDrawing_70 rfl ?_
    obtain ⟨hz, hF⟩ := gv_out hF
    refine X_iald dX3_ofDrawing_71 ht.2.2.2.2.2.1 hz ?_
    cases hF
    exact V_ireturn dX3_ofDrawing_72 rfl rfl ⟨rfl, rfl⟩
  replace hF := (if_neg c4).symm.trans hF
  by_cases c5 : p2 = (5 : Int32)
  · replace hF := (if_pos c5).symm.trans hF
    refine V_tableIn (off := 72) (tgt := 73) dX3_ofDrawing_1 (by rw [c5]; decide) (by rw [c5]; decide) (by rw [c5]; decide) (by decide) ?_
    refine V_aload_n dX3_ofDrawing_73 rfl ?_
    refine V_iload_n dX3_ofDrawing_74 rfl ?_
    obtain ⟨y2, hc, hF⟩ := bd hF
    refine V_callV G dX3_ofDrawing_75 kX3_98 (wd_at ht.1) ⟨by decide, rfl⟩ (s_X3_ways ht G hc (by omega)) rfl (Nat.le_of_ble_eq_true rfl) (fun _ _ _ q => q.elim) ?_
    rintro _ _ ⟨rfl, rfl⟩
    cases hF
    exact V_ireturn dX3_ofDrawing_78 rfl rfl ⟨rfl, rfl⟩
  replace hF := (if_neg c5).symm.trans hF
  by_cases c6 : p2 = (6 : Int32)
  · replace hF := (if_pos c6).symm.trans hF
    refine V_tableIn (off := 78) (tgt := 79) dX3_ofDrawing_1 (by rw [c6]; decide) (by rw [c6]; decide) (by rw [c6]; decide) (by decide) ?_
    refine V_aload_n dX3_ofDrawing_79 rfl ?_
    refine X_gC G dX3_ofDrawing_80 fX3_40 ht.1 rfl ?_
    refine V_aload_n dX3_ofDrawing_83 rfl ?_
    refine X_gC G dX3_ofDrawing_84 fX3_22 ht.1 rfl ?_
    refine V_iload_n dX3_ofDrawing_87 rfl ?_
    obtain ⟨hz, hF⟩ := gv_out hF
    refine X_iald dX3_ofDrawing_88 ht.2.2.2.2.1 hz ?_
    obtain ⟨hz, hF⟩ := gv_out hF
    refine X_iald dX3_ofDrawing_89 ht.2.2.2.2.2.2.2.2.2.2.1 hz ?_
    cases hF
    exact V_ireturn dX3_ofDrawing_90 rfl rfl ⟨rfl, rfl⟩
  replace hF := (if_neg c6).symm.trans hF
  refine V_tableOut (tgt := 91) dX3_ofDrawing_1 (by have e0 := ts_ne c0 (n := 0) (by decide); have e1 := ts_ne c1 (n := 1) (by decide); have e2 := ts_ne c2 (n := 2) (by decide); have e3 := ts_ne c3 (n := 3) (by decide); have e4 := ts_ne c4 (n := 4) (by decide); have e5 := ts_ne c5 (n := 5) (by decide); have e6 := ts_ne c6 (n := 6) (by decide); omega) (by decide) ?_
  refine V_ldc dX3_ofDrawing_91 qX3_101 ?_
  cases hF
  exact V_ireturn dX3_ofDrawing_93 rfl rfl ⟨rfl, rfl⟩
set_option maxRecDepth 100000 in
set_option maxHeartbeats 4000000 in
theorem s_X3_ruleOf {l : Launch} {s0 : State} {D : va_G} {a0 : Array Value} {sh : List Sh} {f : Nat} {S : St} {t : Nat} {p1 : Int32} {p2 : Int32} (ht : isX3 sh t) {r : Int32} (G : GC l s0 D a0) (hF : F_X3_ruleOf sh f S t p1 p2 = some r) {d : Nat} (hd : 2 ≤ d) : Sp l s0 D d 0 0 mX3_ruleOf (fun v h => v = some (.int r) ∧ h = wd s0.heap.size sh S) v_noX [.ref (s0.heap.size + t), .int p1, .int p2] (wd s0.heap.size sh S) := by
  obtain ⟨d, rfl⟩ : ∃ e, d = e + 1 := ⟨d - 1, by omega⟩
  refine Sp.of (by decide +kernel) rfl (Nat.le_of_ble_eq_true rfl) ?_
  unfold F_X3_ruleOf at hF
  refine V_iload_n dX3_ruleOf_0 rfl ?_
  refine V_if_lt (tgt := 28) dX3_ruleOf_1 (by decide) (fun c => ?_) (fun c => ?_)
  · replace hF := (if_pos c).symm.trans hF
    refine V_iconst (v := -1) dX3_ruleOf_28 (by decide) ?_
    cases hF
    exact V_ireturn dX3_ruleOf_29 rfl rfl ⟨rfl, rfl⟩
  · replace hF := (if_neg c).symm.trans hF
    refine V_iload_n dX3_ruleOf_4 rfl ?_
    refine V_aload_n dX3_ruleOf_5 rfl ?_
    refine X_gI G dX3_ruleOf_6 fX3_62 ht.1 rfl ?_
    refine V_icmp_ge (tgt := 28) dX3_ruleOf_9 (by decide) (fun c => ?_) (fun c => ?_)
    · replace hF := (if_pos c).symm.trans hF
      refine V_iconst (v := -1) dX3_ruleOf_28 (by decide) ?_
      cases hF
      exact V_ireturn dX3_ruleOf_29 rfl rfl ⟨rfl, rfl⟩
    · replace hF := (if_neg c).symm.trans hF
      refine V_aload_n dX3_ruleOf_12 rfl ?_
      refine V_iload_n dX3_ruleOf_13 rfl ?_
      obtain ⟨y1, hc, hF⟩ := bd hF
      refine V_callV G dX3_ruleOf_14 kX3_102 (wd_at ht.1) ⟨by decide, rfl⟩ (s_X3_codeOf ht G hc (by omega)) rfl (Nat.le_of_ble_eq_true rfl) (fun _ _ _ q => q.elim) ?_
      rintro _ _ ⟨rfl, rfl⟩
      refine V_aload_n dX3_ruleOf_17 rfl ?_
      refine X_gI G dX3_ruleOf_18 fX3_62 ht.1 rfl ?_
      refine V_iload_n dX3_ruleOf_21 rfl ?_
      obtain ⟨y2, hc, hF⟩ := bd hF
      refine V_callS dX3_ruleOf_22 kX3_105 (s_X3_ruleIn G hc (by omega)) rfl (Nat.le_of_ble_eq_true rfl) (fun _ _ _ q => q.elim) ?_
      rintro _ _ ⟨rfl, rfl⟩
      refine V_goto (tgt := 29) dX3_ruleOf_25 (by decide) ?_
      cases hF
      exact V_ireturn dX3_ruleOf_29 rfl rfl ⟨rfl, rfl⟩
set_option maxRecDepth 100000 in
set_option maxHeartbeats 4000000 in
theorem s_X4_partnerIn {l : Launch} {s0 : State} {D : va_G} {a0 : Array Value} {sh : List Sh} {f : Nat} {S : St} {p0 : Int64} {p2 : Int32} {r : Int32} (G : GC l s0 D a0) (hF : F_X4_partnerIn sh f S p0 p2 = some r) {d : Nat} (hd : 1 ≤ d) : Sp l s0 D d 0 0 mX4_partnerIn (fun v h => v = some (.int r) ∧ h = wd s0.heap.size sh S) v_noX [.long p0, .int p2] (wd s0.heap.size sh S) := by
  obtain ⟨d, rfl⟩ : ∃ e, d = e + 1 := ⟨d - 1, by omega⟩
  refine Sp.of (by decide +kernel) rfl (Nat.le_of_ble_eq_true rfl) ?_
  unfold F_X4_partnerIn at hF
  refine V_lload_n dX4_partnerIn_0 rfl ?_
  refine V_iconst (v := 4) dX4_partnerIn_1 (by decide) ?_
  refine V_bipush (v := 11) dX4_partnerIn_2 (by decide) ?_
  refine V_iload_n dX4_partnerIn_4 rfl ?_
  refine V_isub dX4_partnerIn_5 ?_
  refine V_imul dX4_partnerIn_6 ?_
  refine V_lshr dX4_partnerIn_7 ?_
  refine V_l2i dX4_partnerIn_8 ?_
  refine V_bipush (v := 15) dX4_partnerIn_9 (by decide) ?_
  refine V_iand dX4_partnerIn_11 ?_
  cases hF
  exact V_ireturn dX4_partnerIn_12 rfl rfl ⟨rfl, rfl⟩
set_option maxRecDepth 100000 in
set_option maxHeartbeats 4000000 in
theorem s_X3_partnerOf {l : Launch} {s0 : State} {D : va_G} {a0 : Array Value} {sh : List Sh} {f : Nat} {S : St} {t : Nat} {p1 : Int32} {p2 : Int32} (ht : isX3 sh t) {r : Int32} (G : GC l s0 D a0) (hF : F_X3_partnerOf sh f S t p1 p2 = some r) {d : Nat} (hd : 2 ≤ d) : Sp l s0 D d 0 0 mX3_partnerOf (fun v h => v = some (.int r) ∧ h = wd s0.heap.size sh S) v_noX [.ref (s0.heap.size + t), .int p1, .int p2] (wd s0.heap.size sh S) := by
  obtain ⟨d, rfl⟩ : ∃ e, d = e + 1 := ⟨d - 1, by omega⟩
  refine Sp.of (by decide +kernel) rfl (Nat.le_of_ble_eq_true rfl) ?_
  unfold F_X3_partnerOf at hF
  refine V_iload_n dX3_partnerOf_0 rfl ?_
  refine V_if_lt (tgt := 26) dX3_partnerOf_1 (by decide) (fun c => ?_) (fun c => ?_)
  · replace hF := (if_pos c).symm.trans hF
    refine V_iconst (v := -1) dX3_partnerOf_26 (by decide) ?_
    cases hF
    exact V_ireturn dX3_partnerOf_27 rfl rfl ⟨rfl, rfl⟩
  · replace hF := (if_neg c).symm.trans hF
    refine V_iload_n dX3_partnerOf_4 rfl ?_
    refine V_aload_n dX3_partnerOf_5 rfl ?_
    refine V_iload_n dX3_partnerOf_6 rfl ?_
    obtain ⟨y1, hc, hF⟩ := bd hF
    refine V_callV G dX3_partnerOf_7 kX3_109 (wd_at ht.1) ⟨by decide, rfl⟩ (s_X3_legsOf ht G hc (by omega)) rfl (Nat.le_of_ble_eq_true rfl) (fun _ _ _ q => q.elim) ?_
    rintro _ _ ⟨rfl, rfl⟩
    refine V_icmp_ge (tgt := 26) dX3_partnerOf_10 (by decide) (fun c => ?_) (fun c => ?_)
    · replace hF := (if_pos c).symm.trans hF
      refine V_iconst (v := -1) dX3_partnerOf_26 (by decide) ?_
      cases hF
      exact V_ireturn dX3_partnerOf_27 rfl rfl ⟨rfl, rfl⟩
    · replace hF := (if_neg c).symm.trans hF
      refine V_aload_n dX3_partnerOf_13 rfl ?_
      refine X_gC G dX3_partnerOf_14 fX3_9 ht.1 rfl ?_
      refine V_iload_n dX3_partnerOf_17 rfl ?_
      obtain ⟨hz, hF⟩ := gv_out hF
      refine X_lald dX3_partnerOf_18 ht.2.1 hz ?_
      refine V_iload_n dX3_partnerOf_19 rfl ?_
      obtain ⟨y2, hc, hF⟩ := bd hF
      refine V_callS dX3_partnerOf_20 kX3_112 (s_X4_partnerIn G hc (by omega)) rfl (Nat.le_of_ble_eq_true rfl) (fun _ _ _ q => q.elim) ?_
      rintro _ _ ⟨rfl, rfl⟩
      refine V_goto (tgt := 27) dX3_partnerOf_23 (by decide) ?_
      cases hF
      exact V_ireturn dX3_partnerOf_27 rfl rfl ⟨rfl, rfl⟩
set_option maxRecDepth 100000 in
set_option maxHeartbeats 4000000 in
theorem s_X3_hasCut {l : Launch} {s0 : State} {D : va_G} {a0 : Array Value} {sh : List Sh} {f : Nat} {S : St} {t : Nat} {p1 : Int32} {p2 : Int32} (ht : isX3 sh t) {r : Int32} (G : GC l s0 D a0) (hF : F_X3_hasCut sh f S t p1 p2 = some r) {d : Nat} (hd : 1 ≤ d) : Sp l s0 D d 0 0 mX3_hasCut (fun v h => v = some (.int r) ∧ h = wd s0.heap.size sh S) v_noX [.ref (s0.heap.size + t), .int p1, .int p2] (wd s0.heap.size sh S) := by
  obtain ⟨d, rfl⟩ : ∃ e, d = e + 1 := ⟨d - 1, by omega⟩
  refine Sp.of (by decide +kernel) rfl (Nat.le_of_ble_eq_true rfl) ?_
  unfold F_X3_hasCut at hF
  refine V_iload_n dX3_hasCut_0 rfl ?_
  refine V_if_lt (tgt := 18) dX3_hasCut_1 (by decide) (fun c => ?_) (fun c => ?_)
  · replace hF := (if_pos c).symm.trans hF
    refine V_iconst (v := 0) dX3_hasCut_18 (by decide) ?_
    cases hF
    exact V_ireturn dX3_hasCut_19 rfl (by decide) ⟨rfl, rfl⟩
  · replace hF := (if_neg c).symm.trans hF
    refine V_iload_n dX3_hasCut_4 rfl ?_
    refine V_aload_n dX3_hasCut_5 rfl ?_
    refine X_gC G dX3_hasCut_6 fX3_25 ht.1 rfl ?_
    refine V_iload_n dX3_hasCut_9 rfl ?_
    obtain ⟨hz, hF⟩ := gv_out hF
    refine X_iald dX3_hasCut_10 ht.2.2.2.2.2.1 hz ?_
    refine V_icmp_ge (tgt := 18) dX3_hasCut_11 (by decide) (fun c => ?_) (fun c => ?_)
    · replace hF := (if_pos c).symm.trans hF
      refine V_iconst (v := 0) dX3_hasCut_18 (by decide) ?_
      cases hF
      exact V_ireturn dX3_hasCut_19 rfl (by decide) ⟨rfl, rfl⟩
    · replace hF := (if_neg c).symm.trans hF
      refine V_iconst (v := 1) dX3_hasCut_14 (by decide) ?_
      refine V_goto (tgt := 19) dX3_hasCut_15 (by decide) ?_
      cases hF
      exact V_ireturn dX3_hasCut_19 rfl (by decide) ⟨rfl, rfl⟩
set_option maxRecDepth 100000 in
set_option maxHeartbeats 4000000 in
theorem s_X3_sideOf {l : Launch} {s0 : State} {D : va_G} {a0 : Array Value} {sh : List Sh} {f : Nat} {S : St} {t : Nat} {p1 : Int32} {p2 : Int32} (ht : isX3 sh t) {r : Int32} (G : GC l s0 D a0) (hF : F_X3_sideOf sh f S t p1 p2 = some r) {d : Nat} (hd : 1 ≤ d) : Sp l s0 D d 0 0 mX3_sideOf (fun v h => v = some (.int r) ∧ h = wd s0.heap.size sh S) v_noX [.ref (s0.heap.size + t), .int p1, .int p2] (wd s0.heap.size sh S) := by
  obtain ⟨d, rfl⟩ : ∃ e, d = e + 1 := ⟨d - 1, by omega⟩
  refine Sp.of (by decide +kernel) rfl (Nat.le_of_ble_eq_true rfl) ?_
  unfold F_X3_sideOf at hF
  refine V_aload_n dX3_sideOf_0 rfl ?_
  refine X_gC G dX3_sideOf_1 fX3_28 ht.1 rfl ?_
  refine V_iload_n dX3_sideOf_4 rfl ?_
  refine V_iconst (v := 2) dX3_sideOf_5 (by decide) ?_
  refine V_imul dX3_sideOf_6 ?_
  refine V_iload_n dX3_sideOf_7 rfl ?_
  refine V_iadd dX3_sideOf_8 ?_
  obtain ⟨hz, hF⟩ := gv_out hF
  refine X_iald dX3_sideOf_9 ht.2.2.2.2.2.2.1 hz ?_
  cases hF
  exact V_ireturn dX3_sideOf_10 rfl rfl ⟨rfl, rfl⟩
set_option maxRecDepth 100000 in
set_option maxHeartbeats 4000000 in
theorem s_X3_sideKindOf {l : Launch} {s0 : State} {D : va_G} {a0 : Array Value} {sh : List Sh} {f : Nat} {S : St} {t : Nat} {p1 : Int32} {p2 : Int32} (ht : isX3 sh t) {r : Int32} (G : GC l s0 D a0) (hF : F_X3_sideKindOf sh f S t p1 p2 = some r) {d : Nat} (hd : 1 ≤ d) : Sp l s0 D d 0 0 mX3_sideKindOf (fun v h => v = some (.int r) ∧ h = wd s0.heap.size sh S) v_noX [.ref (s0.heap.size + t), .int p1, .int p2] (wd s0.heap.size sh S) := by
  obtain ⟨d, rfl⟩ : ∃ e, d = e + 1 := ⟨d - 1, by omega⟩
  refine Sp.of (by decide +kernel) rfl (Nat.le_of_ble_eq_true rfl) ?_
  unfold F_X3_sideKindOf at hF
  refine V_aload_n dX3_sideKindOf_0 rfl ?_
  refine X_gC G dX3_sideKindOf_1 fX3_31 ht.1 rfl ?_
  refine V_iload_n dX3_sideKindOf_4 rfl ?_
  refine V_iconst (v := 2) dX3_sideKindOf_5 (by decide) ?_
  refine V_imul dX3_sideKindOf_6 ?_
  refine V_iload_n dX3_sideKindOf_7 rfl ?_
  refine V_iadd dX3_sideKindOf_8 ?_
  obtain ⟨hz, hF⟩ := gv_out hF
  refine X_iald dX3_sideKindOf_9 ht.2.2.2.2.2.2.2.1 hz ?_
  cases hF
  exact V_ireturn dX3_sideKindOf_10 rfl rfl ⟨rfl, rfl⟩
set_option maxRecDepth 100000 in
set_option maxHeartbeats 4000000 in
theorem w_X3_allWays_L4 {l : Launch} {s0 : State} {D : va_G} {a0 : Array Value} {sh : List Sh} {f : Nat} {S : St} {t : Nat} (ht : isX3 sh t) {r : Int32} {d : Nat} (G : GC l s0 D a0) (hd : 2 ≤ d + 1) : ∀ (n : Nat) (l1 : Int32) (l2 : Int32), F_X3_allWays_L4 sh f S t n l1 l2 = some r → V l s0 D (d + 1) 0 0 mX3_allWays (fun v h => v = some (.int r) ∧ h = wd s0.heap.size sh S) v_noX 4 [(0, .ref (s0.heap.size + t)), (1, .int l1), (2, .int l2)] [] (wd s0.heap.size sh S) := by
  intro n
  induction n with
  | zero => intro l1 l2 hF; cases hF
  | succ n ih =>
    intro l1 l2 hF
    unfold F_X3_allWays_L4 at hF
    refine V_iload_n dX3_allWays_4 rfl ?_
    refine V_aload_n dX3_allWays_5 rfl ?_
    refine X_gI G dX3_allWays_6 fX3_66 ht.1 rfl ?_
    refine V_icmp_ge (tgt := 26) dX3_allWays_9 (by decide) (fun c => ?_) (fun c => ?_)
    · replace hF := (if_pos c).symm.trans hF
      refine V_iload_n dX3_allWays_26 rfl ?_
      cases hF
      exact V_ireturn dX3_allWays_27 rfl rfl ⟨rfl, rfl⟩
    · replace hF := (if_neg c).symm.trans hF
      refine V_iload_n dX3_allWays_12 rfl ?_
      refine V_aload_n dX3_allWays_13 rfl ?_
      refine V_iload_n dX3_allWays_14 rfl ?_
      obtain ⟨y1, hc, hF⟩ := bd hF
      refine V_callV G dX3_allWays_15 kX3_98 (wd_at ht.1) ⟨by decide, rfl⟩ (s_X3_ways ht G hc (by omega)) rfl (Nat.le_of_ble_eq_true rfl) (fun _ _ _ q => q.elim) ?_
      rintro _ _ ⟨rfl, rfl⟩
      refine V_iadd dX3_allWays_18 ?_
      obtain ⟨x2, qx2, hF⟩ := bnd_g hF
      refine B_istore_n qx2 dX3_allWays_19 (by decide) ?_
      obtain ⟨x3, qx3, hF⟩ := bnd_g hF
      refine B_iinc (v := 1) qx3 dX3_allWays_20 rfl (by decide) (by decide) ?_
      refine V_goto (tgt := 4) dX3_allWays_23 (by decide) ?_
      exact V_lv' (ih _ _ hF) (v_all_c rfl (v_all_c rfl (v_all_c rfl v_all_n)))
set_option maxRecDepth 100000 in
set_option maxHeartbeats 4000000 in
theorem s_X3_allWays {l : Launch} {s0 : State} {D : va_G} {a0 : Array Value} {sh : List Sh} {f : Nat} {S : St} {t : Nat} (ht : isX3 sh t) {r : Int32} (G : GC l s0 D a0) (hF : F_X3_allWays sh f S t = some r) {d : Nat} (hd : 2 ≤ d) : Sp l s0 D d 0 0 mX3_allWays (fun v h => v = some (.int r) ∧ h = wd s0.heap.size sh S) v_noX [.ref (s0.heap.size + t)] (wd s0.heap.size sh S) := by
  obtain ⟨d, rfl⟩ : ∃ e, d = e + 1 := ⟨d - 1, by omega⟩
  refine Sp.of (by decide +kernel) rfl (Nat.le_of_ble_eq_true rfl) ?_
  unfold F_X3_allWays at hF
  refine V_iconst (v := 0) dX3_allWays_0 (by decide) ?_
  refine V_istore_n dX3_allWays_1 (by decide) ?_
  refine V_iconst (v := 0) dX3_allWays_2 (by decide) ?_
  refine V_istore_n dX3_allWays_3 (by decide) ?_
  exact V_lv' (w_X3_allWays_L4 ht G hd f _ _ hF) (v_all_c rfl (v_all_c rfl (v_all_c rfl v_all_n)))
set_option maxRecDepth 100000 in
set_option maxHeartbeats 4000000 in
theorem w_X3_withoutLoops_L4 {l : Launch} {s0 : State} {D : va_G} {a0 : Array Value} {sh : List Sh} {f : Nat} {S : St} {t : Nat} (ht : isX3 sh t) {r : Int32} {d : Nat} (G : GC l s0 D a0) (hd : 2 ≤ d + 1) : ∀ (n : Nat) (l1 : Int32) (l2 : Int32), F_X3_withoutLoops_L4 sh f S t n l1 l2 = some r → V l s0 D (d + 1) 0 0 mX3_withoutLoops (fun v h => v = some (.int r) ∧ h = wd s0.heap.size sh S) v_noX 4 [(0, .ref (s0.heap.size + t)), (1, .int l1), (2, .int l2)] [] (wd s0.heap.size sh S) := by
  intro n
  induction n with
  | zero => intro l1 l2 hF; cases hF
  | succ n ih =>
    intro l1 l2 hF
    unfold F_X3_withoutLoops_L4 at hF
    refine V_iload_n dX3_withoutLoops_4 rfl ?_
    refine V_aload_n dX3_withoutLoops_5 rfl ?_
    refine X_gI G dX3_withoutLoops_6 fX3_66 ht.1 rfl ?_
    refine V_icmp_ge (tgt := 34) dX3_withoutLoops_9 (by decide) (fun c => ?_) (fun c => ?_)
    · replace hF := (if_pos c).symm.trans hF
      refine V_iload_n dX3_withoutLoops_34 rfl ?_
      cases hF
      exact V_ireturn dX3_withoutLoops_35 rfl rfl ⟨rfl, rfl⟩
    · replace hF := (if_neg c).symm.trans hF
      refine V_iload_n dX3_withoutLoops_12 rfl ?_
      refine V_aload_n dX3_withoutLoops_13 rfl ?_
      refine V_iload_n dX3_withoutLoops_14 rfl ?_
      obtain ⟨y1, hc, hF⟩ := bd hF
      refine V_callV G dX3_withoutLoops_15 kX3_94 (wd_at ht.1) ⟨by decide, rfl⟩ (s_X3_loops ht G hc (by omega)) rfl (Nat.le_of_ble_eq_true rfl) (fun _ _ _ q => q.elim) ?_
      rintro _ _ ⟨rfl, rfl⟩
      refine V_if_ne (tgt := 25) dX3_withoutLoops_18 (by decide) (fun c => ?_) (fun c => ?_)
      · replace hF := (if_neg c).symm.trans hF
        refine V_iconst (v := 0) dX3_withoutLoops_25 (by decide) ?_
        refine V_iadd dX3_withoutLoops_26 ?_
        obtain ⟨x2, qx2, hF⟩ := bnd_g hF
        refine B_istore_n qx2 dX3_withoutLoops_27 (by decide) ?_
        obtain ⟨x3, qx3, hF⟩ := bnd_g hF
        refine B_iinc (v := 1) qx3 dX3_withoutLoops_28 rfl (by decide) (by decide) ?_
        refine V_goto (tgt := 4) dX3_withoutLoops_31 (by decide) ?_
        exact V_lv' (ih _ _ hF) (v_all_c rfl (v_all_c rfl (v_all_c rfl v_all_n)))
      · replace hF := (if_pos c).symm.trans hF
        refine V_iconst (v := 1) dX3_withoutLoops_21 (by decide) ?_
        refine V_goto (tgt := 26) dX3_withoutLoops_22 (by decide) ?_
        refine V_iadd dX3_withoutLoops_26 ?_
        obtain ⟨x4, qx4, hF⟩ := bnd_g hF
        refine B_istore_n qx4 dX3_withoutLoops_27 (by decide) ?_
        obtain ⟨x5, qx5, hF⟩ := bnd_g hF
        refine B_iinc (v := 1) qx5 dX3_withoutLoops_28 rfl (by decide) (by decide) ?_
        refine V_goto (tgt := 4) dX3_withoutLoops_31 (by decide) ?_
        exact V_lv' (ih _ _ hF) (v_all_c rfl (v_all_c rfl (v_all_c rfl v_all_n)))
set_option maxRecDepth 100000 in
set_option maxHeartbeats 4000000 in
theorem s_X3_withoutLoops {l : Launch} {s0 : State} {D : va_G} {a0 : Array Value} {sh : List Sh} {f : Nat} {S : St} {t : Nat} (ht : isX3 sh t) {r : Int32} (G : GC l s0 D a0) (hF : F_X3_withoutLoops sh f S t = some r) {d : Nat} (hd : 2 ≤ d) : Sp l s0 D d 0 0 mX3_withoutLoops (fun v h => v = some (.int r) ∧ h = wd s0.heap.size sh S) v_noX [.ref (s0.heap.size + t)] (wd s0.heap.size sh S) := by
  obtain ⟨d, rfl⟩ : ∃ e, d = e + 1 := ⟨d - 1, by omega⟩
  refine Sp.of (by decide +kernel) rfl (Nat.le_of_ble_eq_true rfl) ?_
  unfold F_X3_withoutLoops at hF
  refine V_iconst (v := 0) dX3_withoutLoops_0 (by decide) ?_
  refine V_istore_n dX3_withoutLoops_1 (by decide) ?_
  refine V_iconst (v := 0) dX3_withoutLoops_2 (by decide) ?_
  refine V_istore_n dX3_withoutLoops_3 (by decide) ?_
  exact V_lv' (w_X3_withoutLoops_L4 ht G hd f _ _ hF) (v_all_c rfl (v_all_c rfl (v_all_c rfl v_all_n)))
set_option maxRecDepth 100000 in
set_option maxHeartbeats 4000000 in
theorem w_X3_withoutCuts_L4 {l : Launch} {s0 : State} {D : va_G} {a0 : Array Value} {sh : List Sh} {f : Nat} {S : St} {t : Nat} (ht : isX3 sh t) {r : Int32} {d : Nat} (G : GC l s0 D a0) (hd : 1 ≤ d + 1) : ∀ (n : Nat) (l1 : Int32) (l2 : Int32), F_X3_withoutCuts_L4 sh f S t n l1 l2 = some r → V l s0 D (d + 1) 0 0 mX3_withoutCuts (fun v h => v = some (.int r) ∧ h = wd s0.heap.size sh S) v_noX 4 [(0, .ref (s0.heap.size + t)), (1, .int l1), (2, .int l2)] [] (wd s0.heap.size sh S) := by
  intro n
  induction n with
  | zero => intro l1 l2 hF; cases hF
  | succ n ih =>
    intro l1 l2 hF
    unfold F_X3_withoutCuts_L4 at hF
    refine V_iload_n dX3_withoutCuts_4 rfl ?_
    refine V_aload_n dX3_withoutCuts_5 rfl ?_
    refine X_gI G dX3_withoutCuts_6 fX3_66 ht.1 rfl ?_
    refine V_icmp_ge (tgt := 35) dX3_withoutCuts_9 (by decide) (fun c => ?_) (fun c => ?_)
    · replace hF := (if_pos c).symm.trans hF
      refine V_iload_n dX3_withoutCuts_35 rfl ?_
      cases hF
      exact V_ireturn dX3_withoutCuts_36 rfl rfl ⟨rfl, rfl⟩
    · replace hF := (if_neg c).symm.trans hF
      refine V_iload_n dX3_withoutCuts_12 rfl ?_
      refine V_aload_n dX3_withoutCuts_13 rfl ?_
      refine X_gC G dX3_withoutCuts_14 fX3_25 ht.1 rfl ?_
      refine V_iload_n dX3_withoutCuts_17 rfl ?_
      obtain ⟨hz, hF⟩ := gv_out hF
      refine X_iald dX3_withoutCuts_18 ht.2.2.2.2.2.1 hz ?_
      refine V_if_ne (tgt := 26) dX3_withoutCuts_19 (by decide) (fun c => ?_) (fun c => ?_)
      · replace hF := (if_neg c).symm.trans hF
        refine V_iconst (v := 0) dX3_withoutCuts_26 (by decide) ?_
        refine V_iadd dX3_withoutCuts_27 ?_
        obtain ⟨x1, qx1, hF⟩ := bnd_g hF
        refine B_istore_n qx1 dX3_withoutCuts_28 (by decide) ?_
        obtain ⟨x2, qx2, hF⟩ := bnd_g hF
        refine B_iinc (v := 1) qx2 dX3_withoutCuts_29 rfl (by decide) (by decide) ?_
        refine V_goto (tgt := 4) dX3_withoutCuts_32 (by decide) ?_
        exact V_lv' (ih _ _ hF) (v_all_c rfl (v_all_c rfl (v_all_c rfl v_all_n)))
      · replace hF := (if_pos c).symm.trans hF
        refine V_iconst (v := 1) dX3_withoutCuts_22 (by decide) ?_
        refine V_goto (tgt := 27) dX3_withoutCuts_23 (by decide) ?_
        refine V_iadd dX3_withoutCuts_27 ?_
        obtain ⟨x3, qx3, hF⟩ := bnd_g hF
        refine B_istore_n qx3 dX3_withoutCuts_28 (by decide) ?_
        obtain ⟨x4, qx4, hF⟩ := bnd_g hF
        refine B_iinc (v := 1) qx4 dX3_withoutCuts_29 rfl (by decide) (by decide) ?_
        refine V_goto (tgt := 4) dX3_withoutCuts_32 (by decide) ?_
        exact V_lv' (ih _ _ hF) (v_all_c rfl (v_all_c rfl (v_all_c rfl v_all_n)))
set_option maxRecDepth 100000 in
set_option maxHeartbeats 4000000 in
theorem s_X3_withoutCuts {l : Launch} {s0 : State} {D : va_G} {a0 : Array Value} {sh : List Sh} {f : Nat} {S : St} {t : Nat} (ht : isX3 sh t) {r : Int32} (G : GC l s0 D a0) (hF : F_X3_withoutCuts sh f S t = some r) {d : Nat} (hd : 1 ≤ d) : Sp l s0 D d 0 0 mX3_withoutCuts (fun v h => v = some (.int r) ∧ h = wd s0.heap.size sh S) v_noX [.ref (s0.heap.size + t)] (wd s0.heap.size sh S) := by
  obtain ⟨d, rfl⟩ : ∃ e, d = e + 1 := ⟨d - 1, by omega⟩
  refine Sp.of (by decide +kernel) rfl (Nat.le_of_ble_eq_true rfl) ?_
  unfold F_X3_withoutCuts at hF
  refine V_iconst (v := 0) dX3_withoutCuts_0 (by decide) ?_
  refine V_istore_n dX3_withoutCuts_1 (by decide) ?_
  refine V_iconst (v := 0) dX3_withoutCuts_2 (by decide) ?_
  refine V_istore_n dX3_withoutCuts_3 (by decide) ?_
  exact V_lv' (w_X3_withoutCuts_L4 ht G hd f _ _ hF) (v_all_c rfl (v_all_c rfl (v_all_c rfl v_all_n)))
set_option maxRecDepth 100000 in
set_option maxHeartbeats 4000000 in
theorem w_X3_find_L3 {l : Launch} {s0 : State} {D : va_G} {a0 : Array Value} {sh : List Sh} {f : Nat} {S : St} {t : Nat} {p1 : Int32} {p2 : Int64} (ht : isX3 sh t) {r : Int32} {d : Nat} (G : GC l s0 D a0) (hd : 1 ≤ d + 1) : ∀ (n : Nat) (l4 : Int32), F_X3_find_L3 sh f S t p1 p2 n l4 = some r → V l s0 D (d + 1) 0 0 mX3_find (fun v h => v = some (.int r) ∧ h = wd s0.heap.size sh S) v_noX 3 [(0, .ref (s0.heap.size + t)), (1, .int p1), (2, .long p2), (4, .int l4)] [] (wd s0.heap.size sh S) := by
  intro n
  induction n with
  | zero => intro l4 hF; cases hF
  | succ n ih =>
    intro l4 hF
    unfold F_X3_find_L3 at hF
    refine V_iload dX3_find_3 rfl ?_
    refine V_aload_n dX3_find_5 rfl ?_
    refine X_gI G dX3_find_6 fX3_66 ht.1 rfl ?_
    refine V_icmp_ge (tgt := 44) dX3_find_9 (by decide) (fun c => ?_) (fun c => ?_)
    · replace hF := (if_pos c).symm.trans hF
      refine V_bipush (v := -2) dX3_find_44 (by decide) ?_
      cases hF
      exact V_ireturn dX3_find_46 rfl rfl ⟨rfl, rfl⟩
    · replace hF := (if_neg c).symm.trans hF
      refine V_aload_n dX3_find_12 rfl ?_
      refine X_gC G dX3_find_13 fX3_22 ht.1 rfl ?_
      refine V_iload dX3_find_16 rfl ?_
      obtain ⟨hz, hF⟩ := gv_out hF
      refine X_iald dX3_find_18 ht.2.2.2.2.1 hz ?_
      refine V_iload_n dX3_find_19 rfl ?_
      refine V_icmp_ne (tgt := 38) dX3_find_20 (by decide) (fun c => ?_) (fun c => ?_)
      · replace hF := (if_neg c).symm.trans hF
        obtain ⟨x1, qx1, hF⟩ := bnd_g hF
        refine B_iinc (v := 1) qx1 dX3_find_38 rfl (by decide) (by decide) ?_
        refine V_goto (tgt := 3) dX3_find_41 (by decide) ?_
        exact V_lv' (ih _ hF) (v_all_c rfl (v_all_c rfl (v_all_c rfl (v_all_c rfl v_all_n))))
      · replace hF := (if_pos c).symm.trans hF
        refine V_aload_n dX3_find_23 rfl ?_
        refine X_gC G dX3_find_24 fX3_9 ht.1 rfl ?_
        refine V_iload dX3_find_27 rfl ?_
        obtain ⟨hz, hF⟩ := gv_out hF
        refine X_lald dX3_find_29 ht.2.1 hz ?_
        refine V_lload_n dX3_find_30 rfl ?_
        refine V_lcmp dX3_find_31 ?_
        refine V_if_ne (tgt := 38) dX3_find_32 (by decide) (fun c => ?_) (fun c => ?_)
        · replace hF := (if_neg c).symm.trans hF
          obtain ⟨x2, qx2, hF⟩ := bnd_g hF
          refine B_iinc (v := 1) qx2 dX3_find_38 rfl (by decide) (by decide) ?_
          refine V_goto (tgt := 3) dX3_find_41 (by decide) ?_
          exact V_lv' (ih _ hF) (v_all_c rfl (v_all_c rfl (v_all_c rfl (v_all_c rfl v_all_n))))
        · replace hF := (if_pos c).symm.trans hF
          refine V_iload dX3_find_35 rfl ?_
          cases hF
          exact V_ireturn dX3_find_37 rfl rfl ⟨rfl, rfl⟩
set_option maxRecDepth 100000 in
set_option maxHeartbeats 4000000 in
theorem s_X3_find {l : Launch} {s0 : State} {D : va_G} {a0 : Array Value} {sh : List Sh} {f : Nat} {S : St} {t : Nat} {p1 : Int32} {p2 : Int64} (ht : isX3 sh t) {r : Int32} (G : GC l s0 D a0) (hF : F_X3_find sh f S t p1 p2 = some r) {d : Nat} (hd : 1 ≤ d) : Sp l s0 D d 0 0 mX3_find (fun v h => v = some (.int r) ∧ h = wd s0.heap.size sh S) v_noX [.ref (s0.heap.size + t), .int p1, .long p2] (wd s0.heap.size sh S) := by
  obtain ⟨d, rfl⟩ : ∃ e, d = e + 1 := ⟨d - 1, by omega⟩
  refine Sp.of (by decide +kernel) rfl (Nat.le_of_ble_eq_true rfl) ?_
  unfold F_X3_find at hF
  refine V_iconst (v := 0) dX3_find_0 (by decide) ?_
  refine V_istore dX3_find_1 (by decide) ?_
  exact V_lv' (w_X3_find_L3 ht G hd f _ hF) (v_all_c rfl (v_all_c rfl (v_all_c rfl (v_all_c rfl v_all_n))))
set_option maxRecDepth 100000 in
set_option maxHeartbeats 4000000 in
theorem w_X3_signedWays_L5 {l : Launch} {s0 : State} {D : va_G} {a0 : Array Value} {sh : List Sh} {f : Nat} {S : St} {t : Nat} {p1 : Int32} (ht : isX3 sh t) {r : Int64} {d : Nat} (G : GC l s0 D a0) (hd : 2 ≤ d + 1) : ∀ (n : Nat) (l2 : Int64) (l4 : Int32), F_X3_signedWays_L5 sh f S t p1 n l2 l4 = some r → V l s0 D (d + 1) 0 0 mX3_signedWays (fun v h => v = some (.long r) ∧ h = wd s0.heap.size sh S) v_noX 5 [(0, .ref (s0.heap.size + t)), (1, .int p1), (2, .long l2), (4, .int l4)] [] (wd s0.heap.size sh S) := by
  intro n
  induction n with
  | zero => intro l2 l4 hF; cases hF
  | succ n ih =>
    intro l2 l4 hF
    unfold F_X3_signedWays_L5 at hF
    refine V_iload dX3_signedWays_5 rfl ?_
    refine V_aload_n dX3_signedWays_7 rfl ?_
    refine X_gI G dX3_signedWays_8 fX3_66 ht.1 rfl ?_
    refine V_icmp_ge (tgt := 50) dX3_signedWays_11 (by decide) (fun c => ?_) (fun c => ?_)
    · replace hF := (if_pos c).symm.trans hF
      refine V_lload_n dX3_signedWays_50 rfl ?_
      cases hF
      exact V_lreturn dX3_signedWays_51 rfl ⟨rfl, rfl⟩
    · replace hF := (if_neg c).symm.trans hF
      refine V_aload_n dX3_signedWays_14 rfl ?_
      refine X_gC G dX3_signedWays_15 fX3_22 ht.1 rfl ?_
      refine V_iload dX3_signedWays_18 rfl ?_
      obtain ⟨hz, hF⟩ := gv_out hF
      refine X_iald dX3_signedWays_20 ht.2.2.2.2.1 hz ?_
      refine V_iload_n dX3_signedWays_21 rfl ?_
      refine V_icmp_ne (tgt := 44) dX3_signedWays_22 (by decide) (fun c => ?_) (fun c => ?_)
      · replace hF := (if_neg c).symm.trans hF
        obtain ⟨x1, qx1, hF⟩ := bnd_g hF
        refine B_iinc (v := 1) qx1 dX3_signedWays_44 rfl (by decide) (by decide) ?_
        refine V_goto (tgt := 5) dX3_signedWays_47 (by decide) ?_
        exact V_lv' (ih _ _ hF) (v_all_c rfl (v_all_c rfl (v_all_c rfl (v_all_c rfl v_all_n))))
      · replace hF := (if_pos c).symm.trans hF
        refine V_lload_n dX3_signedWays_25 rfl ?_
        refine V_aload_n dX3_signedWays_26 rfl ?_
        refine X_gC G dX3_signedWays_27 fX3_19 ht.1 rfl ?_
        refine V_iload dX3_signedWays_30 rfl ?_
        obtain ⟨hz, hF⟩ := gv_out hF
        refine X_iald dX3_signedWays_32 ht.2.2.2.1 hz ?_
        refine V_i2l dX3_signedWays_33 ?_
        refine V_aload_n dX3_signedWays_34 rfl ?_
        refine V_iload dX3_signedWays_35 rfl ?_
        obtain ⟨y2, hc, hF⟩ := bd hF
        refine V_callV G dX3_signedWays_37 kX3_98 (wd_at ht.1) ⟨by decide, rfl⟩ (s_X3_ways ht G hc (by omega)) rfl (Nat.le_of_ble_eq_true rfl) (fun _ _ _ q => q.elim) ?_
        rintro _ _ ⟨rfl, rfl⟩
        refine V_i2l dX3_signedWays_40 ?_
        refine V_lmul dX3_signedWays_41 ?_
        refine V_ladd dX3_signedWays_42 ?_
        obtain ⟨x3, qx3, hF⟩ := bnd_g hF
        refine B_lstore_n qx3 dX3_signedWays_43 (by decide) ?_
        obtain ⟨x4, qx4, hF⟩ := bnd_g hF
        refine B_iinc (v := 1) qx4 dX3_signedWays_44 rfl (by decide) (by decide) ?_
        refine V_goto (tgt := 5) dX3_signedWays_47 (by decide) ?_
        exact V_lv' (ih _ _ hF) (v_all_c rfl (v_all_c rfl (v_all_c rfl (v_all_c rfl v_all_n))))
set_option maxRecDepth 100000 in
set_option maxHeartbeats 4000000 in
theorem s_X3_signedWays {l : Launch} {s0 : State} {D : va_G} {a0 : Array Value} {sh : List Sh} {f : Nat} {S : St} {t : Nat} {p1 : Int32} (ht : isX3 sh t) {r : Int64} (G : GC l s0 D a0) (hF : F_X3_signedWays sh f S t p1 = some r) {d : Nat} (hd : 2 ≤ d) : Sp l s0 D d 0 0 mX3_signedWays (fun v h => v = some (.long r) ∧ h = wd s0.heap.size sh S) v_noX [.ref (s0.heap.size + t), .int p1] (wd s0.heap.size sh S) := by
  obtain ⟨d, rfl⟩ : ∃ e, d = e + 1 := ⟨d - 1, by omega⟩
  refine Sp.of (by decide +kernel) rfl (Nat.le_of_ble_eq_true rfl) ?_
  unfold F_X3_signedWays at hF
  refine V_lconst (v := 0) dX3_signedWays_0 (by decide) ?_
  refine V_lstore_n dX3_signedWays_1 (by decide) ?_
  refine V_iconst (v := 0) dX3_signedWays_2 (by decide) ?_
  refine V_istore dX3_signedWays_3 (by decide) ?_
  exact V_lv' (w_X3_signedWays_L5 ht G hd f _ _ hF) (v_all_c rfl (v_all_c rfl (v_all_c rfl (v_all_c rfl v_all_n))))
set_option maxRecDepth 100000 in
set_option maxHeartbeats 4000000 in
theorem s_X3_divisor {l : Launch} {s0 : State} {D : va_G} {a0 : Array Value} {sh : List Sh} {f : Nat} {S : St} {t : Nat} {p1 : Int32} (ht : isX3 sh t) {r : Int64} (G : GC l s0 D a0) (hF : F_X3_divisor sh f S t p1 = some r) {d : Nat} (hd : 1 ≤ d) : Sp l s0 D d 0 0 mX3_divisor (fun v h => v = some (.long r) ∧ h = wd s0.heap.size sh S) v_noX [.ref (s0.heap.size + t), .int p1] (wd s0.heap.size sh S) := by
  obtain ⟨d, rfl⟩ : ∃ e, d = e + 1 := ⟨d - 1, by omega⟩
  refine Sp.of (by decide +kernel) rfl (Nat.le_of_ble_eq_true rfl) ?_
  unfold F_X3_divisor at hF
  refine V_aload_n dX3_divisor_0 rfl ?_
  refine X_gC G dX3_divisor_1 fX3_43 ht.1 rfl ?_
  refine V_iload_n dX3_divisor_4 rfl ?_
  obtain ⟨hz, hF⟩ := gv_out hF
  refine X_iald dX3_divisor_5 ht.2.2.2.2.2.2.2.2.2.2.2.1 hz ?_
  refine V_i2l dX3_divisor_6 ?_
  refine V_aload_n dX3_divisor_7 rfl ?_
  refine X_gC G dX3_divisor_8 fX3_46 ht.1 rfl ?_
  refine V_iload_n dX3_divisor_11 rfl ?_
  obtain ⟨hz, hF⟩ := gv_out hF
  refine X_iald dX3_divisor_12 ht.2.2.2.2.2.2.2.2.2.2.2.2.1 hz ?_
  refine V_i2l dX3_divisor_13 ?_
  refine V_lmul dX3_divisor_14 ?_
  cases hF
  exact V_lreturn dX3_divisor_15 rfl ⟨rfl, rfl⟩
set_option maxRecDepth 100000 in
set_option maxHeartbeats 4000000 in
theorem w_X4_layPoint_L83 {l : Launch} {s0 : State} {D : va_G} {a0 : Array Value} {sh : List Sh} {f : Nat} {t : Nat} {p1 : Nat} {p2 : Int32} (ht : isX4 sh t) (hp1 : isX0 sh p1) {r : St} {d : Nat} (G : GC l s0 D a0) (hd : 1 ≤ d + 1) {k25 : St → Int32 → Int32 → Option (St)} (hk25 : ∀ (S : St) (l3 : Int32) (l4 : Int32), k25 S l3 l4 = some r → V l s0 D (d + 1) 0 0 mX4_layPoint (fun v h => v = none ∧ h = wd s0.heap.size sh r) v_noX 25 [(0, .ref (s0.heap.size + t)), (1, .ref (s0.heap.size + p1)), (2, .int p2), (3, .int l3), (4, .int l4)] [] (wd s0.heap.size sh S)) : ∀ (n : Nat) (S : St) (l3 : Int32) (l4 : Int32) (l5 : Int32), F_X4_layPoint_L83 sh f t p1 p2 k25 n S l3 l4 l5 = some r → V l s0 D (d + 1) 0 0 mX4_layPoint (fun v h => v = none ∧ h = wd s0.heap.size sh r) v_noX 83 [(0, .ref (s0.heap.size + t)), (1, .ref (s0.heap.size + p1)), (2, .int p2), (3, .int l3), (4, .int l4), (5, .int l5)] [] (wd s0.heap.size sh S) := by
  intro n
  induction n with
  | zero => intro S l3 l4 l5 hF; cases hF
  | succ n ih =>
    intro S l3 l4 l5 hF
    unfold F_X4_layPoint_L83 at hF
    refine V_iload dX4_layPoint_83 rfl ?_
    refine V_aload_n dX4_layPoint_85 rfl ?_
    refine X_gI G dX4_layPoint_86 fX4_45 ht.1 rfl ?_
    refine V_icmp_ge (tgt := 117) dX4_layPoint_89 (by decide) (fun c => ?_) (fun c => ?_)
    · replace hF := (if_pos c).symm.trans hF
      refine V_aload_n dX4_layPoint_117 rfl ?_
      refine X_gC G dX4_layPoint_118 fX4_18 ht.1 rfl ?_
      refine V_aload_n dX4_layPoint_121 rfl ?_
      refine X_gI G dX4_layPoint_122 fX4_45 ht.1 rfl ?_
      refine V_iload dX4_layPoint_125 rfl ?_
      obtain ⟨hz, hF⟩ := gv_out hF
      refine X_iast dX4_layPoint_127 ht.2.2.2.1 hz ?_
      obtain ⟨S1, qS1, hF⟩ := bnd_g hF
      refine V_eqS qS1 ?_
      refine V_aload_n dX4_layPoint_128 rfl ?_
      refine V_dup dX4_layPoint_129 rfl ?_
      refine X_gI G dX4_layPoint_130 fX4_45 ht.1 rfl ?_
      refine V_iconst (v := 1) dX4_layPoint_133 (by decide) ?_
      refine V_iadd dX4_layPoint_134 ?_
      refine X_pI G dX4_layPoint_135 gX4_45 ht.1 rfl rfl rfl ?_
      obtain ⟨S2, qS2, hF⟩ := bnd_g hF
      refine V_eqS qS2 ?_
      obtain ⟨x3, qx3, hF⟩ := bnd_g hF
      refine B_iinc (v := 1) qx3 dX4_layPoint_138 rfl (by decide) (by decide) ?_
      refine V_goto (tgt := 25) dX4_layPoint_141 (by decide) ?_
      exact V_lv' (hk25 _ _ _ hF) (v_all_c rfl (v_all_c rfl (v_all_c rfl (v_all_c rfl (v_all_c rfl v_all_n)))))
    · replace hF := (if_neg c).symm.trans hF
      refine V_aload_n dX4_layPoint_92 rfl ?_
      refine X_gC G dX4_layPoint_93 fX4_9 ht.1 rfl ?_
      refine V_iload dX4_layPoint_96 rfl ?_
      obtain ⟨hz, hF⟩ := gv_out hF
      refine X_iald dX4_layPoint_98 ht.2.1 hz ?_
      refine V_aload_n dX4_layPoint_99 rfl ?_
      refine X_gC G dX4_layPoint_100 fX4_9 ht.1 rfl ?_
      refine V_aload_n dX4_layPoint_103 rfl ?_
      refine X_gI G dX4_layPoint_104 fX4_45 ht.1 rfl ?_
      obtain ⟨hz, hF⟩ := gv_out hF
      refine X_iald dX4_layPoint_107 ht.2.1 hz ?_
      refine V_icmp_eq (tgt := 117) dX4_layPoint_108 (by decide) (fun c => ?_) (fun c => ?_)
      · replace hF := (if_pos c).symm.trans hF
        refine V_aload_n dX4_layPoint_117 rfl ?_
        refine X_gC G dX4_layPoint_118 fX4_18 ht.1 rfl ?_
        refine V_aload_n dX4_layPoint_121 rfl ?_
        refine X_gI G dX4_layPoint_122 fX4_45 ht.1 rfl ?_
        refine V_iload dX4_layPoint_125 rfl ?_
        obtain ⟨hz, hF⟩ := gv_out hF
        refine X_iast dX4_layPoint_127 ht.2.2.2.1 hz ?_
        obtain ⟨S4, qS4, hF⟩ := bnd_g hF
        refine V_eqS qS4 ?_
        refine V_aload_n dX4_layPoint_128 rfl ?_
        refine V_dup dX4_layPoint_129 rfl ?_
        refine X_gI G dX4_layPoint_130 fX4_45 ht.1 rfl ?_
        refine V_iconst (v := 1) dX4_layPoint_133 (by decide) ?_
        refine V_iadd dX4_layPoint_134 ?_
        refine X_pI G dX4_layPoint_135 gX4_45 ht.1 rfl rfl rfl ?_
        obtain ⟨S5, qS5, hF⟩ := bnd_g hF
        refine V_eqS qS5 ?_
        obtain ⟨x6, qx6, hF⟩ := bnd_g hF
        refine B_iinc (v := 1) qx6 dX4_layPoint_138 rfl (by decide) (by decide) ?_
        refine V_goto (tgt := 25) dX4_layPoint_141 (by decide) ?_
        exact V_lv' (hk25 _ _ _ hF) (v_all_c rfl (v_all_c rfl (v_all_c rfl (v_all_c rfl (v_all_c rfl v_all_n)))))
      · replace hF := (if_neg c).symm.trans hF
        obtain ⟨x7, qx7, hF⟩ := bnd_g hF
        refine B_iinc (v := 1) qx7 dX4_layPoint_111 rfl (by decide) (by decide) ?_
        refine V_goto (tgt := 83) dX4_layPoint_114 (by decide) ?_
        exact V_lv' (ih _ _ _ _ hF) (v_all_c rfl (v_all_c rfl (v_all_c rfl (v_all_c rfl (v_all_c rfl (v_all_c rfl v_all_n))))))
set_option maxRecDepth 100000 in
set_option maxHeartbeats 4000000 in
theorem w_X4_layPoint_L25 {l : Launch} {s0 : State} {D : va_G} {a0 : Array Value} {sh : List Sh} {f : Nat} {t : Nat} {p1 : Nat} {p2 : Int32} (ht : isX4 sh t) (hp1 : isX0 sh p1) {r : St} {d : Nat} (G : GC l s0 D a0) (hd : 1 ≤ d + 1) : ∀ (n : Nat) (S : St) (l3 : Int32) (l4 : Int32), F_X4_layPoint_L25 sh f t p1 p2 n S l3 l4 = some r → V l s0 D (d + 1) 0 0 mX4_layPoint (fun v h => v = none ∧ h = wd s0.heap.size sh r) v_noX 25 [(0, .ref (s0.heap.size + t)), (1, .ref (s0.heap.size + p1)), (2, .int p2), (3, .int l3), (4, .int l4)] [] (wd s0.heap.size sh S) := by
  intro n
  induction n with
  | zero => intro S l3 l4 hF; cases hF
  | succ n ih =>
    intro S l3 l4 hF
    unfold F_X4_layPoint_L25 at hF
    refine V_iload dX4_layPoint_25 rfl ?_
    refine V_iload_n dX4_layPoint_27 rfl ?_
    refine V_icmp_ge (tgt := 144) dX4_layPoint_28 (by decide) (fun c => ?_) (fun c => ?_)
    · replace hF := (if_pos c).symm.trans hF
      cases hF
      exact V_return dX4_layPoint_144 rfl ⟨rfl, rfl⟩
    · replace hF := (if_neg c).symm.trans hF
      refine V_aload_n dX4_layPoint_31 rfl ?_
      refine X_gI G dX4_layPoint_32 fX4_45 ht.1 rfl ?_
      refine V_bipush (v := 12) dX4_layPoint_35 (by decide) ?_
      refine V_icmp_ge (tgt := 144) dX4_layPoint_37 (by decide) (fun c => ?_) (fun c => ?_)
      · replace hF := (if_pos c).symm.trans hF
        cases hF
        exact V_return dX4_layPoint_144 rfl ⟨rfl, rfl⟩
      · replace hF := (if_neg c).symm.trans hF
        refine V_aload_n dX4_layPoint_40 rfl ?_
        refine X_gC G dX4_layPoint_41 fX4_9 ht.1 rfl ?_
        refine V_aload_n dX4_layPoint_44 rfl ?_
        refine X_gI G dX4_layPoint_45 fX4_45 ht.1 rfl ?_
        refine V_aload_n dX4_layPoint_48 rfl ?_
        refine X_gC G dX4_layPoint_49 fX4_75 hp1.1 rfl ?_
        refine V_aload_n dX4_layPoint_52 rfl ?_
        refine X_gC G dX4_layPoint_53 fX4_27 ht.1 rfl ?_
        refine V_iload_n dX4_layPoint_56 rfl ?_
        obtain ⟨hz, hF⟩ := gv_out hF
        refine X_iald dX4_layPoint_57 ht.2.2.2.2.2.2.1 hz ?_
        refine V_iconst (v := 4) dX4_layPoint_58 (by decide) ?_
        refine V_imul dX4_layPoint_59 ?_
        refine V_iload dX4_layPoint_60 rfl ?_
        refine V_iadd dX4_layPoint_62 ?_
        obtain ⟨hz, hF⟩ := gv_out hF
        refine X_iald dX4_layPoint_63 hp1.2.2.2.2.2.2.2.2.2 hz ?_
        obtain ⟨hz, hF⟩ := gv_out hF
        refine X_iast dX4_layPoint_64 ht.2.1 hz ?_
        obtain ⟨S1, qS1, hF⟩ := bnd_g hF
        refine V_eqS qS1 ?_
        refine V_aload_n dX4_layPoint_65 rfl ?_
        refine X_gC G dX4_layPoint_66 fX4_15 ht.1 rfl ?_
        refine V_aload_n dX4_layPoint_69 rfl ?_
        refine X_gI G dX4_layPoint_70 fX4_45 ht.1 rfl ?_
        refine V_iload_n dX4_layPoint_73 rfl ?_
        obtain ⟨hz, hF⟩ := gv_out hF
        refine X_iast dX4_layPoint_74 ht.2.2.1 hz ?_
        obtain ⟨S2, qS2, hF⟩ := bnd_g hF
        refine V_eqS qS2 ?_
        refine V_aload_n dX4_layPoint_75 rfl ?_
        refine X_gC G dX4_layPoint_76 fX4_30 ht.1 rfl ?_
        refine V_iload_n dX4_layPoint_79 rfl ?_
        obtain ⟨hz, hF⟩ := gv_out hF
        refine X_iald dX4_layPoint_80 ht.2.2.2.2.2.2.2 hz ?_
        obtain ⟨x3, qx3, hF⟩ := bnd_g hF
        refine B_istore qx3 dX4_layPoint_81 (by decide) ?_
        exact V_lv' (w_X4_layPoint_L83 ht hp1 G hd ih f _ _ _ _ hF) (v_all_c rfl (v_all_c rfl (v_all_c rfl (v_all_c rfl (v_all_c rfl (v_all_c rfl v_all_n))))))
set_option maxRecDepth 100000 in
set_option maxHeartbeats 4000000 in
theorem s_X4_layPoint {l : Launch} {s0 : State} {D : va_G} {a0 : Array Value} {sh : List Sh} {f : Nat} {S : St} {t : Nat} {p1 : Nat} {p2 : Int32} (ht : isX4 sh t) (hp1 : isX0 sh p1) {r : St} (G : GC l s0 D a0) (hF : F_X4_layPoint sh f S t p1 p2 = some r) {d : Nat} (hd : 1 ≤ d) : Sp l s0 D d 0 0 mX4_layPoint (fun v h => v = none ∧ h = wd s0.heap.size sh r) v_noX [.ref (s0.heap.size + t), .ref (s0.heap.size + p1), .int p2] (wd s0.heap.size sh S) := by
  obtain ⟨d, rfl⟩ : ∃ e, d = e + 1 := ⟨d - 1, by omega⟩
  refine Sp.of (by decide +kernel) rfl (Nat.le_of_ble_eq_true rfl) ?_
  unfold F_X4_layPoint at hF
  refine V_aload_n dX4_layPoint_0 rfl ?_
  refine X_gC G dX4_layPoint_1 fX4_30 ht.1 rfl ?_
  refine V_iload_n dX4_layPoint_4 rfl ?_
  refine V_aload_n dX4_layPoint_5 rfl ?_
  refine X_gI G dX4_layPoint_6 fX4_45 ht.1 rfl ?_
  obtain ⟨hz, hF⟩ := gv_out hF
  refine X_iast dX4_layPoint_9 ht.2.2.2.2.2.2.2 hz ?_
  obtain ⟨S1, qS1, hF⟩ := bnd_g hF
  refine V_eqS qS1 ?_
  refine V_aload_n dX4_layPoint_10 rfl ?_
  refine X_gC G dX4_layPoint_11 fX4_61 hp1.1 rfl ?_
  refine V_aload_n dX4_layPoint_14 rfl ?_
  refine X_gC G dX4_layPoint_15 fX4_27 ht.1 rfl ?_
  refine V_iload_n dX4_layPoint_18 rfl ?_
  obtain ⟨hz, hF⟩ := gv_out hF
  refine X_iald dX4_layPoint_19 ht.2.2.2.2.2.2.1 hz ?_
  obtain ⟨hz, hF⟩ := gv_out hF
  refine X_iald dX4_layPoint_20 hp1.2.2.2.2.2.2.1 hz ?_
  obtain ⟨x2, qx2, hF⟩ := bnd_g hF
  refine B_istore_n qx2 dX4_layPoint_21 (by decide) ?_
  refine V_iconst (v := 0) dX4_layPoint_22 (by decide) ?_
  refine V_istore dX4_layPoint_23 (by decide) ?_
  exact V_lv' (w_X4_layPoint_L25 ht hp1 G hd f _ _ _ hF) (v_all_c rfl (v_all_c rfl (v_all_c rfl (v_all_c rfl (v_all_c rfl v_all_n)))))

