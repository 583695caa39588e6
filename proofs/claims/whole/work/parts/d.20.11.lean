set_option maxRecDepth 100000 in
set_option maxHeartbeats 4000000 in
theorem w_X4_markKinds_L155 {l : Launch} {s0 : State} {D : va_G} {a0 : Array Value} {sh : List Sh} {f : Nat} {t : Nat} {p1 : Nat} (ht : isX4 sh t) (hp1 : isX0 sh p1) {r : St} {d : Nat} (G : GC l s0 D a0) (hd : 3 ≤ d + 1) {k98 : St → Int32 → Int32 → Int32 → Option (St)} (hk98 : ∀ (S : St) (l2 : Int32) (l4 : Int32) (l5 : Int32), k98 S l2 l4 l5 = some r → V l s0 D (d + 1) 0 0 mX4_markKinds (fun v h => v = none ∧ h = wd s0.heap.size sh r) v_noX 98 [(0, .ref (s0.heap.size + t)), (1, .ref (s0.heap.size + p1)), (2, .int l2), (4, .int l4), (5, .int l5)] [] (wd s0.heap.size sh S)) : ∀ (S : St) (l2 : Int32) (l4 : Int32) (l5 : Int32), F_X4_markKinds_L155 sh f t p1 k98 S l2 l4 l5 = some r → V l s0 D (d + 1) 0 0 mX4_markKinds (fun v h => v = none ∧ h = wd s0.heap.size sh r) v_noX 155 [(0, .ref (s0.heap.size + t)), (1, .ref (s0.heap.size + p1)), (2, .int l2), (4, .int l4), (5, .int l5)] [] (wd s0.heap.size sh S) := by
  intro S l2 l4 l5 hF
  unfold F_X4_markKinds_L155 at hF
  refine V_aload_n dX4_markKinds_155 rfl ?_
  refine X_gC G dX4_markKinds_156 fX4_18 ht.1 rfl ?_
  refine V_iload dX4_markKinds_159 rfl ?_
  obtain ⟨hz, hF⟩ := gv_out hF
  refine X_iald dX4_markKinds_161 ht.2.2.2.1 hz ?_
  refine V_aload_n dX4_markKinds_162 rfl ?_
  refine X_gC G dX4_markKinds_163 fX4_18 ht.1 rfl ?_
  refine V_iload_n dX4_markKinds_166 rfl ?_
  obtain ⟨hz, hF⟩ := gv_out hF
  refine X_iald dX4_markKinds_167 ht.2.2.2.1 hz ?_
  refine V_icmp_ne (tgt := 184) dX4_markKinds_168 (by decide) (fun c => ?_) (fun c => ?_)
  · replace hF := (if_neg c).symm.trans hF
    obtain ⟨x1, qx1, hF⟩ := bnd_g hF
    refine B_iinc (v := 1) qx1 dX4_markKinds_184 rfl (by decide) (by decide) ?_
    refine V_goto (tgt := 98) dX4_markKinds_187 (by decide) ?_
    exact V_lv' (hk98 _ _ _ _ hF) (v_all_c rfl (v_all_c rfl (v_all_c rfl (v_all_c rfl (v_all_c rfl v_all_n)))))
  · replace hF := (if_pos c).symm.trans hF
    refine V_aload_n dX4_markKinds_171 rfl ?_
    refine X_gC G dX4_markKinds_172 fX4_21 ht.1 rfl ?_
    refine V_iload_n dX4_markKinds_175 rfl ?_
    refine V_dup2 dX4_markKinds_176 rfl rfl ?_
    obtain ⟨hz, hF⟩ := gv_out hF
    refine X_iald dX4_markKinds_177 ht.2.2.2.2.1 hz ?_
    refine V_iconst (v := 1) dX4_markKinds_178 (by decide) ?_
    refine V_iload dX4_markKinds_179 rfl ?_
    refine V_ishl dX4_markKinds_181 ?_
    refine V_ior dX4_markKinds_182 ?_
    obtain ⟨hz, hF⟩ := gv_out hF
    refine X_iast dX4_markKinds_183 ht.2.2.2.2.1 hz ?_
    obtain ⟨S2, qS2, hF⟩ := bnd_g hF
    refine V_eqS qS2 ?_
    obtain ⟨x3, qx3, hF⟩ := bnd_g hF
    refine B_iinc (v := 1) qx3 dX4_markKinds_184 rfl (by decide) (by decide) ?_
    refine V_goto (tgt := 98) dX4_markKinds_187 (by decide) ?_
    exact V_lv' (hk98 _ _ _ _ hF) (v_all_c rfl (v_all_c rfl (v_all_c rfl (v_all_c rfl (v_all_c rfl v_all_n)))))
set_option maxRecDepth 100000 in
set_option maxHeartbeats 4000000 in
theorem w_X4_markKinds_L142 {l : Launch} {s0 : State} {D : va_G} {a0 : Array Value} {sh : List Sh} {f : Nat} {t : Nat} {p1 : Nat} (ht : isX4 sh t) (hp1 : isX0 sh p1) {r : St} {d : Nat} (G : GC l s0 D a0) (hd : 3 ≤ d + 1) {k98 : St → Int32 → Int32 → Int32 → Option (St)} (hk98 : ∀ (S : St) (l2 : Int32) (l4 : Int32) (l5 : Int32), k98 S l2 l4 l5 = some r → V l s0 D (d + 1) 0 0 mX4_markKinds (fun v h => v = none ∧ h = wd s0.heap.size sh r) v_noX 98 [(0, .ref (s0.heap.size + t)), (1, .ref (s0.heap.size + p1)), (2, .int l2), (4, .int l4), (5, .int l5)] [] (wd s0.heap.size sh S)) : ∀ (S : St) (l2 : Int32) (l4 : Int32) (l5 : Int32), F_X4_markKinds_L142 sh f t p1 k98 S l2 l4 l5 = some r → V l s0 D (d + 1) 0 0 mX4_markKinds (fun v h => v = none ∧ h = wd s0.heap.size sh r) v_noX 142 [(0, .ref (s0.heap.size + t)), (1, .ref (s0.heap.size + p1)), (2, .int l2), (4, .int l4), (5, .int l5)] [] (wd s0.heap.size sh S) := by
  intro S l2 l4 l5 hF
  unfold F_X4_markKinds_L142 at hF
  refine V_aload_n dX4_markKinds_142 rfl ?_
  refine X_gC G dX4_markKinds_143 fX4_24 ht.1 rfl ?_
  refine V_iload_n dX4_markKinds_146 rfl ?_
  refine V_dup2 dX4_markKinds_147 rfl rfl ?_
  obtain ⟨hz, hF⟩ := gv_out hF
  refine X_iald dX4_markKinds_148 ht.2.2.2.2.2.1 hz ?_
  refine V_iconst (v := 1) dX4_markKinds_149 (by decide) ?_
  refine V_iload dX4_markKinds_150 rfl ?_
  refine V_ishl dX4_markKinds_152 ?_
  refine V_ior dX4_markKinds_153 ?_
  obtain ⟨hz, hF⟩ := gv_out hF
  refine X_iast dX4_markKinds_154 ht.2.2.2.2.2.1 hz ?_
  obtain ⟨S1, qS1, hF⟩ := bnd_g hF
  refine V_eqS qS1 ?_
  exact V_lv' (w_X4_markKinds_L155 ht hp1 G hd hk98 _ _ _ _ hF) (v_all_c rfl (v_all_c rfl (v_all_c rfl (v_all_c rfl (v_all_c rfl v_all_n)))))
set_option maxRecDepth 100000 in
set_option maxHeartbeats 4000000 in
theorem w_X4_markKinds_L98 {l : Launch} {s0 : State} {D : va_G} {a0 : Array Value} {sh : List Sh} {f : Nat} {t : Nat} {p1 : Nat} (ht : isX4 sh t) (hp1 : isX0 sh p1) {r : St} {d : Nat} (G : GC l s0 D a0) (hd : 3 ≤ d + 1) {k12 : St → Int32 → Option (St)} (hk12 : ∀ (S : St) (l2 : Int32), k12 S l2 = some r → V l s0 D (d + 1) 0 0 mX4_markKinds (fun v h => v = none ∧ h = wd s0.heap.size sh r) v_noX 12 [(0, .ref (s0.heap.size + t)), (1, .ref (s0.heap.size + p1)), (2, .int l2)] [] (wd s0.heap.size sh S)) : ∀ (n : Nat) (S : St) (l2 : Int32) (l4 : Int32) (l5 : Int32), F_X4_markKinds_L98 sh f t p1 k12 n S l2 l4 l5 = some r → V l s0 D (d + 1) 0 0 mX4_markKinds (fun v h => v = none ∧ h = wd s0.heap.size sh r) v_noX 98 [(0, .ref (s0.heap.size + t)), (1, .ref (s0.heap.size + p1)), (2, .int l2), (4, .int l4), (5, .int l5)] [] (wd s0.heap.size sh S) := by
  intro n
  induction n with
  | zero => intro S l2 l4 l5 hF; cases hF
  | succ n ih =>
    intro S l2 l4 l5 hF
    unfold F_X4_markKinds_L98 at hF
    refine V_iload dX4_markKinds_98 rfl ?_
    refine V_aload_n dX4_markKinds_100 rfl ?_
    refine X_gI G dX4_markKinds_101 fX4_45 ht.1 rfl ?_
    refine V_icmp_ge (tgt := 190) dX4_markKinds_104 (by decide) (fun c => ?_) (fun c => ?_)
    · replace hF := (if_pos c).symm.trans hF
      obtain ⟨x1, qx1, hF⟩ := bnd_g hF
      refine B_iinc (v := 1) qx1 dX4_markKinds_190 rfl (by decide) (by decide) ?_
      refine V_goto (tgt := 12) dX4_markKinds_193 (by decide) ?_
      exact V_lv' (hk12 _ _ hF) (v_all_c rfl (v_all_c rfl (v_all_c rfl v_all_n)))
    · replace hF := (if_neg c).symm.trans hF
      refine V_iload dX4_markKinds_107 rfl ?_
      refine V_iload_n dX4_markKinds_109 rfl ?_
      refine V_icmp_eq (tgt := 155) dX4_markKinds_110 (by decide) (fun c => ?_) (fun c => ?_)
      · replace hF := (if_pos c).symm.trans hF
        exact V_lv' (w_X4_markKinds_L155 ht hp1 G hd ih _ _ _ _ hF) (v_all_c rfl (v_all_c rfl (v_all_c rfl (v_all_c rfl (v_all_c rfl v_all_n)))))
      · replace hF := (if_neg c).symm.trans hF
        refine V_aload_n dX4_markKinds_113 rfl ?_
        refine X_gC G dX4_markKinds_114 fX4_9 ht.1 rfl ?_
        refine V_iload dX4_markKinds_117 rfl ?_
        obtain ⟨hz, hF⟩ := gv_out hF
        refine X_iald dX4_markKinds_119 ht.2.1 hz ?_
        refine V_iload dX4_markKinds_120 rfl ?_
        refine V_icmp_ne (tgt := 155) dX4_markKinds_122 (by decide) (fun c => ?_) (fun c => ?_)
        · replace hF := (if_neg c).symm.trans hF
          exact V_lv' (w_X4_markKinds_L155 ht hp1 G hd ih _ _ _ _ hF) (v_all_c rfl (v_all_c rfl (v_all_c rfl (v_all_c rfl (v_all_c rfl v_all_n)))))
        · replace hF := (if_pos c).symm.trans hF
          refine V_iload_n dX4_markKinds_125 rfl ?_
          refine V_aload_n dX4_markKinds_126 rfl ?_
          refine X_gI G dX4_markKinds_127 fX4_42 ht.1 rfl ?_
          refine V_icmp_ge (tgt := 142) dX4_markKinds_130 (by decide) (fun c => ?_) (fun c => ?_)
          · replace hF := (if_pos c).symm.trans hF
            exact V_lv' (w_X4_markKinds_L142 ht hp1 G hd ih _ _ _ _ hF) (v_all_c rfl (v_all_c rfl (v_all_c rfl (v_all_c rfl (v_all_c rfl v_all_n)))))
          · replace hF := (if_neg c).symm.trans hF
            refine V_iload dX4_markKinds_133 rfl ?_
            refine V_aload_n dX4_markKinds_135 rfl ?_
            refine X_gI G dX4_markKinds_136 fX4_42 ht.1 rfl ?_
            refine V_icmp_lt (tgt := 155) dX4_markKinds_139 (by decide) (fun c => ?_) (fun c => ?_)
            · replace hF := (if_pos c).symm.trans hF
              exact V_lv' (w_X4_markKinds_L155 ht hp1 G hd ih _ _ _ _ hF) (v_all_c rfl (v_all_c rfl (v_all_c rfl (v_all_c rfl (v_all_c rfl v_all_n)))))
            · replace hF := (if_neg c).symm.trans hF
              exact V_lv' (w_X4_markKinds_L142 ht hp1 G hd ih _ _ _ _ hF) (v_all_c rfl (v_all_c rfl (v_all_c rfl (v_all_c rfl (v_all_c rfl v_all_n)))))
set_option maxRecDepth 100000 in
set_option maxHeartbeats 4000000 in
theorem w_X4_markKinds_L55 {l : Launch} {s0 : State} {D : va_G} {a0 : Array Value} {sh : List Sh} {f : Nat} {t : Nat} {p1 : Nat} (ht : isX4 sh t) (hp1 : isX0 sh p1) {r : St} {d : Nat} (G : GC l s0 D a0) (hd : 3 ≤ d + 1) {k12 : St → Int32 → Option (St)} (hk12 : ∀ (S : St) (l2 : Int32), k12 S l2 = some r → V l s0 D (d + 1) 0 0 mX4_markKinds (fun v h => v = none ∧ h = wd s0.heap.size sh r) v_noX 12 [(0, .ref (s0.heap.size + t)), (1, .ref (s0.heap.size + p1)), (2, .int l2)] [] (wd s0.heap.size sh S)) : ∀ (S : St) (l2 : Int32) (l3 : Int32) (l4 : Int32) (v0 : Nat) (v1 : Int32) (v2 : Int32),isX4 sh v0 → F_X4_markKinds_L55 sh f t p1 k12 S l2 l3 l4 v0 v1 v2 = some r → V l s0 D (d + 1) 0 0 mX4_markKinds (fun v h => v = none ∧ h = wd s0.heap.size sh r) v_noX 55 [(0, .ref (s0.heap.size + t)), (1, .ref (s0.heap.size + p1)), (2, .int l2), (3, .int l3), (4, .int l4)] [.int v2, .int v1, .ref (s0.heap.size + v0)] (wd s0.heap.size sh S) := by
  intro S l2 l3 l4 v0 v1 v2 hv0 hF
  unfold F_X4_markKinds_L55 at hF
  refine V_ior dX4_markKinds_55 ?_
  refine X_pI G dX4_markKinds_56 gX4_76 hv0.1 rfl rfl rfl ?_
  obtain ⟨S1, qS1, hF⟩ := bnd_g hF
  refine V_eqS qS1 ?_
  refine V_aload_n dX4_markKinds_59 rfl ?_
  refine V_dup dX4_markKinds_60 rfl ?_
  refine X_gI G dX4_markKinds_61 fX4_79 ht.1 rfl ?_
  refine V_iload dX4_markKinds_64 rfl ?_
  refine V_iload_n dX4_markKinds_66 rfl ?_
  refine V_icmp_ge (tgt := 76) dX4_markKinds_67 (by decide) (fun c => ?_) (fun c => ?_)
  · replace hF := (if_pos c).symm.trans hF
    refine V_iconst (v := 0) dX4_markKinds_76 (by decide) ?_
    refine V_ior dX4_markKinds_77 ?_
    refine X_pI G dX4_markKinds_78 gX4_79 ht.1 rfl rfl rfl ?_
    obtain ⟨S2, qS2, hF⟩ := bnd_g hF
    refine V_eqS qS2 ?_
    refine V_aload_n dX4_markKinds_81 rfl ?_
    refine X_gC G dX4_markKinds_82 fX4_24 ht.1 rfl ?_
    refine V_iload_n dX4_markKinds_85 rfl ?_
    refine V_iconst (v := 0) dX4_markKinds_86 (by decide) ?_
    obtain ⟨hz, hF⟩ := gv_out hF
    refine X_iast dX4_markKinds_87 ht.2.2.2.2.2.1 hz ?_
    obtain ⟨S3, qS3, hF⟩ := bnd_g hF
    refine V_eqS qS3 ?_
    refine V_aload_n dX4_markKinds_88 rfl ?_
    refine X_gC G dX4_markKinds_89 fX4_21 ht.1 rfl ?_
    refine V_iload_n dX4_markKinds_92 rfl ?_
    refine V_iconst (v := 0) dX4_markKinds_93 (by decide) ?_
    obtain ⟨hz, hF⟩ := gv_out hF
    refine X_iast dX4_markKinds_94 ht.2.2.2.2.1 hz ?_
    obtain ⟨S4, qS4, hF⟩ := bnd_g hF
    refine V_eqS qS4 ?_
    refine V_iconst (v := 0) dX4_markKinds_95 (by decide) ?_
    refine V_istore dX4_markKinds_96 (by decide) ?_
    exact V_lv' (w_X4_markKinds_L98 ht hp1 G hd hk12 f _ _ _ _ hF) (v_all_c rfl (v_all_c rfl (v_all_c rfl (v_all_c rfl (v_all_c rfl v_all_n)))))
  · replace hF := (if_neg c).symm.trans hF
    refine V_iconst (v := 1) dX4_markKinds_70 (by decide) ?_
    refine V_iload_n dX4_markKinds_71 rfl ?_
    refine V_ishl dX4_markKinds_72 ?_
    refine V_goto (tgt := 77) dX4_markKinds_73 (by decide) ?_
    refine V_ior dX4_markKinds_77 ?_
    refine X_pI G dX4_markKinds_78 gX4_79 ht.1 rfl rfl rfl ?_
    obtain ⟨S5, qS5, hF⟩ := bnd_g hF
    refine V_eqS qS5 ?_
    refine V_aload_n dX4_markKinds_81 rfl ?_
    refine X_gC G dX4_markKinds_82 fX4_24 ht.1 rfl ?_
    refine V_iload_n dX4_markKinds_85 rfl ?_
    refine V_iconst (v := 0) dX4_markKinds_86 (by decide) ?_
    obtain ⟨hz, hF⟩ := gv_out hF
    refine X_iast dX4_markKinds_87 ht.2.2.2.2.2.1 hz ?_
    obtain ⟨S6, qS6, hF⟩ := bnd_g hF
    refine V_eqS qS6 ?_
    refine V_aload_n dX4_markKinds_88 rfl ?_
    refine X_gC G dX4_markKinds_89 fX4_21 ht.1 rfl ?_
    refine V_iload_n dX4_markKinds_92 rfl ?_
    refine V_iconst (v := 0) dX4_markKinds_93 (by decide) ?_
    obtain ⟨hz, hF⟩ := gv_out hF
    refine X_iast dX4_markKinds_94 ht.2.2.2.2.1 hz ?_
    obtain ⟨S7, qS7, hF⟩ := bnd_g hF
    refine V_eqS qS7 ?_
    refine V_iconst (v := 0) dX4_markKinds_95 (by decide) ?_
    refine V_istore dX4_markKinds_96 (by decide) ?_
    exact V_lv' (w_X4_markKinds_L98 ht hp1 G hd hk12 f _ _ _ _ hF) (v_all_c rfl (v_all_c rfl (v_all_c rfl (v_all_c rfl (v_all_c rfl v_all_n)))))
set_option maxRecDepth 100000 in
set_option maxHeartbeats 4000000 in
theorem w_X4_markKinds_L12 {l : Launch} {s0 : State} {D : va_G} {a0 : Array Value} {sh : List Sh} {f : Nat} {t : Nat} {p1 : Nat} (ht : isX4 sh t) (hp1 : isX0 sh p1) {r : St} {d : Nat} (G : GC l s0 D a0) (hd : 3 ≤ d + 1) : ∀ (n : Nat) (S : St) (l2 : Int32), F_X4_markKinds_L12 sh f t p1 n S l2 = some r → V l s0 D (d + 1) 0 0 mX4_markKinds (fun v h => v = none ∧ h = wd s0.heap.size sh r) v_noX 12 [(0, .ref (s0.heap.size + t)), (1, .ref (s0.heap.size + p1)), (2, .int l2)] [] (wd s0.heap.size sh S) := by
  intro n
  induction n with
  | zero => intro S l2 hF; cases hF
  | succ n ih =>
    intro S l2 hF
    unfold F_X4_markKinds_L12 at hF
    refine V_iload_n dX4_markKinds_12 rfl ?_
    refine V_aload_n dX4_markKinds_13 rfl ?_
    refine X_gI G dX4_markKinds_14 fX4_45 ht.1 rfl ?_
    refine V_icmp_ge (tgt := 196) dX4_markKinds_17 (by decide) (fun c => ?_) (fun c => ?_)
    · replace hF := (if_pos c).symm.trans hF
      cases hF
      exact V_return dX4_markKinds_196 rfl ⟨rfl, rfl⟩
    · replace hF := (if_neg c).symm.trans hF
      refine V_aload_n dX4_markKinds_20 rfl ?_
      refine X_gC G dX4_markKinds_21 fX4_9 ht.1 rfl ?_
      refine V_iload_n dX4_markKinds_24 rfl ?_
      obtain ⟨hz, hF⟩ := gv_out hF
      refine X_iald dX4_markKinds_25 ht.2.1 hz ?_
      obtain ⟨x1, qx1, hF⟩ := bnd_g hF
      refine B_istore_n qx1 dX4_markKinds_26 (by decide) ?_
      refine V_aload_n dX4_markKinds_27 rfl ?_
      refine X_gC G dX4_markKinds_28 fX4_82 hp1.1 rfl ?_
      refine V_iload_n dX4_markKinds_31 rfl ?_
      obtain ⟨hz, hF⟩ := gv_out hF
      refine X_iald dX4_markKinds_32 hp1.2.2.1 hz ?_
      obtain ⟨x2, qx2, hF⟩ := bnd_g hF
      refine B_istore qx2 dX4_markKinds_33 (by decide) ?_
      refine V_aload_n dX4_markKinds_35 rfl ?_
      refine V_dup dX4_markKinds_36 rfl ?_
      refine X_gI G dX4_markKinds_37 fX4_76 ht.1 rfl ?_
      refine V_aload_n dX4_markKinds_40 rfl ?_
      refine V_iload_n dX4_markKinds_41 rfl ?_
      obtain ⟨y3, hc, hF⟩ := bd hF
      refine V_callV G dX4_markKinds_42 kX4_85 (wd_at hp1.1) ⟨by decide, rfl⟩ (s_X0_isHalf hp1 G hc (by omega)) rfl (Nat.le_of_ble_eq_true rfl) (fun _ _ _ q => q.elim) ?_
      rintro _ _ ⟨rfl, rfl⟩
      refine V_if_eq (tgt := 54) dX4_markKinds_45 (by decide) (fun c => ?_) (fun c => ?_)
      · replace hF := (if_pos c).symm.trans hF
        refine V_iconst (v := 0) dX4_markKinds_54 (by decide) ?_
        exact V_lv' (w_X4_markKinds_L55 ht hp1 G hd ih _ _ _ _ _ _ _ ht hF) (v_all_c rfl (v_all_c rfl (v_all_c rfl (v_all_c rfl (v_all_c rfl v_all_n)))))
      · replace hF := (if_neg c).symm.trans hF
        refine V_iconst (v := 1) dX4_markKinds_48 (by decide) ?_
        refine V_iload_n dX4_markKinds_49 rfl ?_
        refine V_ishl dX4_markKinds_50 ?_
        refine V_goto (tgt := 55) dX4_markKinds_51 (by decide) ?_
        exact V_lv' (w_X4_markKinds_L55 ht hp1 G hd ih _ _ _ _ _ _ _ ht hF) (v_all_c rfl (v_all_c rfl (v_all_c rfl (v_all_c rfl (v_all_c rfl v_all_n)))))
set_option maxRecDepth 100000 in
set_option maxHeartbeats 4000000 in
theorem s_X4_markKinds {l : Launch} {s0 : State} {D : va_G} {a0 : Array Value} {sh : List Sh} {f : Nat} {S : St} {t : Nat} {p1 : Nat} (ht : isX4 sh t) (hp1 : isX0 sh p1) {r : St} (G : GC l s0 D a0) (hF : F_X4_markKinds sh f S t p1 = some r) {d : Nat} (hd : 3 ≤ d) : Sp l s0 D d 0 0 mX4_markKinds (fun v h => v = none ∧ h = wd s0.heap.size sh r) v_noX [.ref (s0.heap.size + t), .ref (s0.heap.size + p1)] (wd s0.heap.size sh S) := by
  obtain ⟨d, rfl⟩ : ∃ e, d = e + 1 := ⟨d - 1, by omega⟩
  refine Sp.of (by decide +kernel) rfl (Nat.le_of_ble_eq_true rfl) ?_
  unfold F_X4_markKinds at hF
  refine V_aload_n dX4_markKinds_0 rfl ?_
  refine V_iconst (v := 0) dX4_markKinds_1 (by decide) ?_
  refine X_pI G dX4_markKinds_2 gX4_76 ht.1 rfl rfl rfl ?_
  obtain ⟨S1, qS1, hF⟩ := bnd_g hF
  refine V_eqS qS1 ?_
  refine V_aload_n dX4_markKinds_5 rfl ?_
  refine V_iconst (v := 0) dX4_markKinds_6 (by decide) ?_
  refine X_pI G dX4_markKinds_7 gX4_79 ht.1 rfl rfl rfl ?_
  obtain ⟨S2, qS2, hF⟩ := bnd_g hF
  refine V_eqS qS2 ?_
  refine V_iconst (v := 0) dX4_markKinds_10 (by decide) ?_
  refine V_istore_n dX4_markKinds_11 (by decide) ?_
  exact V_lv' (w_X4_markKinds_L12 ht hp1 G hd f _ _ hF) (v_all_c rfl (v_all_c rfl (v_all_c rfl v_all_n)))
set_option maxRecDepth 100000 in
set_option maxHeartbeats 4000000 in
theorem s_X4_followsAlike {l : Launch} {s0 : State} {D : va_G} {a0 : Array Value} {sh : List Sh} {f : Nat} {S : St} {t : Nat} {p1 : Int32} (ht : isX4 sh t) {r : Int32} (G : GC l s0 D a0) (hF : F_X4_followsAlike sh f S t p1 = some r) {d : Nat} (hd : 1 ≤ d) : Sp l s0 D d 0 0 mX4_followsAlike (fun v h => v = some (.int r) ∧ h = wd s0.heap.size sh S) v_noX [.ref (s0.heap.size + t), .int p1] (wd s0.heap.size sh S) := by
  obtain ⟨d, rfl⟩ : ∃ e, d = e + 1 := ⟨d - 1, by omega⟩
  refine Sp.of (by decide +kernel) rfl (Nat.le_of_ble_eq_true rfl) ?_
  unfold F_X4_followsAlike at hF
  refine V_iload_n dX4_followsAlike_0 rfl ?_
  refine V_if_le (tgt := 33) dX4_followsAlike_1 (by decide) (fun c => ?_) (fun c => ?_)
  · replace hF := (if_pos c).symm.trans hF
    refine V_iconst (v := 0) dX4_followsAlike_33 (by decide) ?_
    cases hF
    exact V_ireturn dX4_followsAlike_34 rfl (by decide) ⟨rfl, rfl⟩
  · replace hF := (if_neg c).symm.trans hF
    refine V_iload_n dX4_followsAlike_4 rfl ?_
    refine V_aload_n dX4_followsAlike_5 rfl ?_
    refine X_gI G dX4_followsAlike_6 fX4_33 ht.1 rfl ?_
    refine V_icmp_ge (tgt := 33) dX4_followsAlike_9 (by decide) (fun c => ?_) (fun c => ?_)
    · replace hF := (if_pos c).symm.trans hF
      refine V_iconst (v := 0) dX4_followsAlike_33 (by decide) ?_
      cases hF
      exact V_ireturn dX4_followsAlike_34 rfl (by decide) ⟨rfl, rfl⟩
    · replace hF := (if_neg c).symm.trans hF
      refine V_aload_n dX4_followsAlike_12 rfl ?_
      refine X_gC G dX4_followsAlike_13 fX4_27 ht.1 rfl ?_
      refine V_iload_n dX4_followsAlike_16 rfl ?_
      obtain ⟨hz, hF⟩ := gv_out hF
      refine X_iald dX4_followsAlike_17 ht.2.2.2.2.2.2.1 hz ?_
      refine V_aload_n dX4_followsAlike_18 rfl ?_
      refine X_gC G dX4_followsAlike_19 fX4_27 ht.1 rfl ?_
      refine V_iload_n dX4_followsAlike_22 rfl ?_
      refine V_iconst (v := 1) dX4_followsAlike_23 (by decide) ?_
      refine V_isub dX4_followsAlike_24 ?_
      obtain ⟨hz, hF⟩ := gv_out hF
      refine X_iald dX4_followsAlike_25 ht.2.2.2.2.2.2.1 hz ?_
      refine V_icmp_ne (tgt := 33) dX4_followsAlike_26 (by decide) (fun c => ?_) (fun c => ?_)
      · replace hF := (if_neg c).symm.trans hF
        refine V_iconst (v := 0) dX4_followsAlike_33 (by decide) ?_
        cases hF
        exact V_ireturn dX4_followsAlike_34 rfl (by decide) ⟨rfl, rfl⟩
      · replace hF := (if_pos c).symm.trans hF
        refine V_iconst (v := 1) dX4_followsAlike_29 (by decide) ?_
        refine V_goto (tgt := 34) dX4_followsAlike_30 (by decide) ?_
        cases hF
        exact V_ireturn dX4_followsAlike_34 rfl (by decide) ⟨rfl, rfl⟩
set_option maxRecDepth 100000 in
set_option maxHeartbeats 4000000 in
theorem w_X4_countNamings_L54 {l : Launch} {s0 : State} {D : va_G} {a0 : Array Value} {sh : List Sh} {f : Nat} {t : Nat} (ht : isX4 sh t) {r : St} {d : Nat} (G : GC l s0 D a0) (hd : 2 ≤ d + 1) : ∀ (n : Nat) (S : St) (l2 : Int32), F_X4_countNamings_L54 sh f t n S l2 = some r → V l s0 D (d + 1) 0 0 mX4_countNamings (fun v h => v = none ∧ h = wd s0.heap.size sh r) v_noX 54 [(0, .ref (s0.heap.size + t)), (2, .int l2)] [] (wd s0.heap.size sh S) := by
  intro n
  induction n with
  | zero => intro S l2 hF; cases hF
  | succ n ih =>
    intro S l2 hF
    unfold F_X4_countNamings_L54 at hF
    refine V_iload_n dX4_countNamings_54 rfl ?_
    refine V_aload_n dX4_countNamings_55 rfl ?_
    refine X_gI G dX4_countNamings_56 fX4_45 ht.1 rfl ?_
    refine V_icmp_ge (tgt := 92) dX4_countNamings_59 (by decide) (fun c => ?_) (fun c => ?_)
    · replace hF := (if_pos c).symm.trans hF
      cases hF
      exact V_return dX4_countNamings_92 rfl ⟨rfl, rfl⟩
    · replace hF := (if_neg c).symm.trans hF
      refine V_aload_n dX4_countNamings_62 rfl ?_
      refine V_dup dX4_countNamings_63 rfl ?_
      refine X_gI G dX4_countNamings_64 fX4_89 ht.1 rfl ?_
      refine V_aload_n dX4_countNamings_67 rfl ?_
      refine X_gC G dX4_countNamings_68 fX4_21 ht.1 rfl ?_
      refine V_iload_n dX4_countNamings_71 rfl ?_
      obtain ⟨hz, hF⟩ := gv_out hF
      refine X_iald dX4_countNamings_72 ht.2.2.2.2.1 hz ?_
      refine V_iconst (v := 2) dX4_countNamings_73 (by decide) ?_
      refine V_iload_n dX4_countNamings_74 rfl ?_
      refine V_ishl dX4_countNamings_75 ?_
      refine V_iconst (v := 1) dX4_countNamings_76 (by decide) ?_
      refine V_isub dX4_countNamings_77 ?_
      refine V_iand dX4_countNamings_78 ?_
      obtain ⟨y1, hc, hF⟩ := bd hF
      refine V_callS dX4_countNamings_79 kX4_95 (s_J6_bitCount_0f7a4 G hc (by omega)) rfl (Nat.le_of_ble_eq_true rfl) (fun _ _ _ q => q.elim) ?_
      rintro _ _ ⟨rfl, rfl⟩
      refine V_imul dX4_countNamings_82 ?_
      refine X_pI G dX4_countNamings_83 gX4_89 ht.1 rfl rfl rfl ?_
      obtain ⟨S2, qS2, hF⟩ := bnd_g hF
      refine V_eqS qS2 ?_
      obtain ⟨x3, qx3, hF⟩ := bnd_g hF
      refine B_iinc (v := 1) qx3 dX4_countNamings_86 rfl (by decide) (by decide) ?_
      refine V_goto (tgt := 54) dX4_countNamings_89 (by decide) ?_
      exact V_lv' (ih _ _ hF) (v_all_c rfl (v_all_c rfl v_all_n))
set_option maxRecDepth 100000 in
set_option maxHeartbeats 4000000 in
theorem w_X4_countNamings_L9 {l : Launch} {s0 : State} {D : va_G} {a0 : Array Value} {sh : List Sh} {f : Nat} {t : Nat} (ht : isX4 sh t) {r : St} {d : Nat} (G : GC l s0 D a0) (hd : 2 ≤ d + 1) : ∀ (n : Nat) (S : St) (l1 : Int32) (l2 : Int32), F_X4_countNamings_L9 sh f t n S l1 l2 = some r → V l s0 D (d + 1) 0 0 mX4_countNamings (fun v h => v = none ∧ h = wd s0.heap.size sh r) v_noX 9 [(0, .ref (s0.heap.size + t)), (1, .int l1), (2, .int l2)] [] (wd s0.heap.size sh S) := by
  intro n
  induction n with
  | zero => intro S l1 l2 hF; cases hF
  | succ n ih =>
    intro S l1 l2 hF
    unfold F_X4_countNamings_L9 at hF
    refine V_iload_n dX4_countNamings_9 rfl ?_
    refine V_aload_n dX4_countNamings_10 rfl ?_
    refine X_gI G dX4_countNamings_11 fX4_33 ht.1 rfl ?_
    refine V_icmp_ge (tgt := 49) dX4_countNamings_14 (by decide) (fun c => ?_) (fun c => ?_)
    · replace hF := (if_pos c).symm.trans hF
      refine V_aload_n dX4_countNamings_49 rfl ?_
      refine X_gI G dX4_countNamings_50 fX4_42 ht.1 rfl ?_
      obtain ⟨x1, qx1, hF⟩ := bnd_g hF
      refine B_istore_n qx1 dX4_countNamings_53 (by decide) ?_
      exact V_lv' (w_X4_countNamings_L54 ht G hd f _ _ hF) (v_all_c rfl (v_all_c rfl v_all_n))
    · replace hF := (if_neg c).symm.trans hF
      refine V_aload_n dX4_countNamings_17 rfl ?_
      refine V_iload_n dX4_countNamings_18 rfl ?_
      obtain ⟨y2, hc, hF⟩ := bd hF
      refine V_callV G dX4_countNamings_19 kX4_92 (wd_at ht.1) ⟨by decide, rfl⟩ (s_X4_followsAlike ht G hc (by omega)) rfl (Nat.le_of_ble_eq_true rfl) (fun _ _ _ q => q.elim) ?_
      rintro _ _ ⟨rfl, rfl⟩
      refine V_if_eq (tgt := 31) dX4_countNamings_22 (by decide) (fun c => ?_) (fun c => ?_)
      · replace hF := (if_pos c).symm.trans hF
        refine V_iconst (v := 1) dX4_countNamings_31 (by decide) ?_
        refine V_istore_n dX4_countNamings_32 (by decide) ?_
        refine V_aload_n dX4_countNamings_33 rfl ?_
        refine V_dup dX4_countNamings_34 rfl ?_
        refine X_gI G dX4_countNamings_35 fX4_89 ht.1 rfl ?_
        refine V_iload_n dX4_countNamings_38 rfl ?_
        refine V_imul dX4_countNamings_39 ?_
        refine X_pI G dX4_countNamings_40 gX4_89 ht.1 rfl rfl rfl ?_
        obtain ⟨S3, qS3, hF⟩ := bnd_g hF
        refine V_eqS qS3 ?_
        obtain ⟨x4, qx4, hF⟩ := bnd_g hF
        refine B_iinc (v := 1) qx4 dX4_countNamings_43 rfl (by decide) (by decide) ?_
        refine V_goto (tgt := 9) dX4_countNamings_46 (by decide) ?_
        exact V_lv' (ih _ _ _ hF) (v_all_c rfl (v_all_c rfl (v_all_c rfl v_all_n)))
      · replace hF := (if_neg c).symm.trans hF
        refine V_iload_n dX4_countNamings_25 rfl ?_
        refine V_iconst (v := 1) dX4_countNamings_26 (by decide) ?_
        refine V_iadd dX4_countNamings_27 ?_
        refine V_goto (tgt := 32) dX4_countNamings_28 (by decide) ?_
        obtain ⟨x5, qx5, hF⟩ := bnd_g hF
        refine B_istore_n qx5 dX4_countNamings_32 (by decide) ?_
        refine V_aload_n dX4_countNamings_33 rfl ?_
        refine V_dup dX4_countNamings_34 rfl ?_
        refine X_gI G dX4_countNamings_35 fX4_89 ht.1 rfl ?_
        refine V_iload_n dX4_countNamings_38 rfl ?_
        refine V_imul dX4_countNamings_39 ?_
        refine X_pI G dX4_countNamings_40 gX4_89 ht.1 rfl rfl rfl ?_
        obtain ⟨S6, qS6, hF⟩ := bnd_g hF
        refine V_eqS qS6 ?_
        obtain ⟨x7, qx7, hF⟩ := bnd_g hF
        refine B_iinc (v := 1) qx7 dX4_countNamings_43 rfl (by decide) (by decide) ?_
        refine V_goto (tgt := 9) dX4_countNamings_46 (by decide) ?_
        exact V_lv' (ih _ _ _ hF) (v_all_c rfl (v_all_c rfl (v_all_c rfl v_all_n)))
set_option maxRecDepth 100000 in
set_option maxHeartbeats 4000000 in
theorem s_X4_countNamings {l : Launch} {s0 : State} {D : va_G} {a0 : Array Value} {sh : List Sh} {f : Nat} {S : St} {t : Nat} (ht : isX4 sh t) {r : St} (G : GC l s0 D a0) (hF : F_X4_countNamings sh f S t = some r) {d : Nat} (hd : 2 ≤ d) : Sp l s0 D d 0 0 mX4_countNamings (fun v h => v = none ∧ h = wd s0.heap.size sh r) v_noX [.ref (s0.heap.size + t)] (wd s0.heap.size sh S) := by
  obtain ⟨d, rfl⟩ : ∃ e, d = e + 1 := ⟨d - 1, by omega⟩
  refine Sp.of (by decide +kernel) rfl (Nat.le_of_ble_eq_true rfl) ?_
  unfold F_X4_countNamings at hF
  refine V_aload_n dX4_countNamings_0 rfl ?_
  refine V_iconst (v := 1) dX4_countNamings_1 (by decide) ?_
  refine X_pI G dX4_countNamings_2 gX4_89 ht.1 rfl rfl rfl ?_
  obtain ⟨S1, qS1, hF⟩ := bnd_g hF
  refine V_eqS qS1 ?_
  refine V_iconst (v := 0) dX4_countNamings_5 (by decide) ?_
  refine V_istore_n dX4_countNamings_6 (by decide) ?_
  refine V_iconst (v := 0) dX4_countNamings_7 (by decide) ?_
  refine V_istore_n dX4_countNamings_8 (by decide) ?_
  exact V_lv' (w_X4_countNamings_L9 ht G hd f _ _ _ hF) (v_all_c rfl (v_all_c rfl (v_all_c rfl v_all_n)))
set_option maxRecDepth 100000 in
set_option maxHeartbeats 4000000 in
theorem w_X4_lay_L132 {l : Launch} {s0 : State} {D : va_G} {a0 : Array Value} {sh : List Sh} {f : Nat} {t : Nat} {p1 : Nat} {p2 : Nat} {p3 : Int32} {p4 : Int32} (ht : isX4 sh t) (hp1 : isX0 sh p1) (hp2 : isX1 sh p2) {r : Int32 × St} {d : Nat} (G : GC l s0 D a0) (hd : 4 ≤ d + 1) {k80 : St → Int32 → Option (Int32 × St)} (hk80 : ∀ (S : St) (l5 : Int32), k80 S l5 = some r → V l s0 D (d + 1) 0 0 mX4_lay (fun v h => v = some (.int r.1) ∧ h = wd s0.heap.size sh r.2) v_noX 80 [(0, .ref (s0.heap.size + t)), (1, .ref (s0.heap.size + p1)), (3, .int p3), (4, .int p4), (5, .int l5)] [] (wd s0.heap.size sh S)) : ∀ (S : St) (l5 : Int32) (l6 : Int32), F_X4_lay_L132 sh f t p1 p2 p3 p4 k80 S l5 l6 = some r → V l s0 D (d + 1) 0 0 mX4_lay (fun v h => v = some (.int r.1) ∧ h = wd s0.heap.size sh r.2) v_noX 132 [(0, .ref (s0.heap.size + t)), (1, .ref (s0.heap.size + p1)), (3, .int p3), (4, .int p4), (5, .int l5), (6, .int l6)] [] (wd s0.heap.size sh S) := by
  intro S l5 l6 hF
  unfold F_X4_lay_L132 at hF
  refine V_aload_n dX4_lay_132 rfl ?_
  refine X_gI G dX4_lay_133 fX4_45 ht.1 rfl ?_
  refine V_aload_n dX4_lay_136 rfl ?_
  refine X_gC G dX4_lay_137 fX4_61 hp1.1 rfl ?_
  refine V_iload dX4_lay_140 rfl ?_
  obtain ⟨hz, hF⟩ := gv_out hF
  refine X_iald dX4_lay_142 hp1.2.2.2.2.2.2.1 hz ?_
  refine V_iadd dX4_lay_143 ?_
  refine V_bipush (v := 12) dX4_lay_144 (by decide) ?_
  refine V_icmp_le (tgt := 151) dX4_lay_146 (by decide) (fun c => ?_) (fun c => ?_)
  · replace hF := (if_pos c).symm.trans hF
    refine V_aload_n dX4_lay_151 rfl ?_
    refine X_gC G dX4_lay_152 fX4_27 ht.1 rfl ?_
    refine V_iload dX4_lay_155 rfl ?_
    refine V_iload dX4_lay_157 rfl ?_
    obtain ⟨hz, hF⟩ := gv_out hF
    refine X_iast dX4_lay_159 ht.2.2.2.2.2.2.1 hz ?_
    obtain ⟨S1, qS1, hF⟩ := bnd_g hF
    refine V_eqS qS1 ?_
    refine V_aload_n dX4_lay_160 rfl ?_
    refine V_aload_n dX4_lay_161 rfl ?_
    refine V_iload dX4_lay_162 rfl ?_
    obtain ⟨y2, hc, hF⟩ := bd hF
    refine V_callV G dX4_lay_164 kX4_64 (wd_at ht.1) ⟨by decide, rfl⟩ (s_X4_layPoint ht hp1 G hc (by omega)) rfl (Nat.le_of_ble_eq_true rfl) (fun _ _ _ q => q.elim) ?_
    rintro _ _ ⟨rfl, rfl⟩
    obtain ⟨x3, qx3, hF⟩ := bnd_g hF
    refine B_iinc (v := 1) qx3 dX4_lay_167 rfl (by decide) (by decide) ?_
    refine V_goto (tgt := 80) dX4_lay_170 (by decide) ?_
    exact V_lv' (hk80 _ _ hF) (v_all_c rfl (v_all_c rfl (v_all_c rfl (v_all_c rfl (v_all_c rfl v_all_n)))))
  · replace hF := (if_neg c).symm.trans hF
    refine V_iconst (v := 0) dX4_lay_149 (by decide) ?_
    cases hF
    exact V_ireturn dX4_lay_150 rfl (by decide) ⟨rfl, rfl⟩
set_option maxRecDepth 100000 in
set_option maxHeartbeats 4000000 in
theorem w_X4_lay_L80 {l : Launch} {s0 : State} {D : va_G} {a0 : Array Value} {sh : List Sh} {f : Nat} {t : Nat} {p1 : Nat} {p2 : Nat} {p3 : Int32} {p4 : Int32} (ht : isX4 sh t) (hp1 : isX0 sh p1) (hp2 : isX1 sh p2) {r : Int32 × St} {d : Nat} (G : GC l s0 D a0) (hd : 4 ≤ d + 1) : ∀ (n : Nat) (S : St) (l5 : Int32), F_X4_lay_L80 sh f t p1 p2 p3 p4 n S l5 = some r → V l s0 D (d + 1) 0 0 mX4_lay (fun v h => v = some (.int r.1) ∧ h = wd s0.heap.size sh r.2) v_noX 80 [(0, .ref (s0.heap.size + t)), (1, .ref (s0.heap.size + p1)), (3, .int p3), (4, .int p4), (5, .int l5)] [] (wd s0.heap.size sh S) := by
  intro n
  induction n with
  | zero => intro S l5 hF; cases hF
  | succ n ih =>
    intro S l5 hF
    unfold F_X4_lay_L80 at hF
    refine V_iload dX4_lay_80 rfl ?_
    refine V_iload_n dX4_lay_82 rfl ?_
    refine V_icmp_ge (tgt := 173) dX4_lay_83 (by decide) (fun c => ?_) (fun c => ?_)
    · replace hF := (if_pos c).symm.trans hF
      refine V_aload_n dX4_lay_173 rfl ?_
      refine X_gI G dX4_lay_174 fX4_45 ht.1 rfl ?_
      refine V_iconst (v := 2) dX4_lay_177 (by decide) ?_
      refine V_irem dX4_lay_178 (by decide) ?_
      refine V_if_eq (tgt := 184) dX4_lay_179 (by decide) (fun c => ?_) (fun c => ?_)
      · replace hF := (if_pos c).symm.trans hF
        refine V_aload_n dX4_lay_184 rfl ?_
        refine V_aload_n dX4_lay_185 rfl ?_
        obtain ⟨y1, hc, hF⟩ := bd hF
        refine V_callV G dX4_lay_186 kX4_68 (wd_at ht.1) ⟨by decide, rfl⟩ (s_X4_markKinds ht hp1 G hc (by omega)) rfl (Nat.le_of_ble_eq_true rfl) (fun _ _ _ q => q.elim) ?_
        rintro _ _ ⟨rfl, rfl⟩
        refine V_aload_n dX4_lay_189 rfl ?_
        obtain ⟨y2, hc, hF⟩ := bd hF
        refine V_callV G dX4_lay_190 kX4_72 (wd_at ht.1) ⟨by decide, rfl⟩ (s_X4_countNamings ht G hc (by omega)) rfl (Nat.le_of_ble_eq_true rfl) (fun _ _ _ q => q.elim) ?_
        rintro _ _ ⟨rfl, rfl⟩
        refine V_iconst (v := 1) dX4_lay_193 (by decide) ?_
        cases hF
        exact V_ireturn dX4_lay_194 rfl (by decide) ⟨rfl, rfl⟩
      · replace hF := (if_neg c).symm.trans hF
        refine V_iconst (v := 0) dX4_lay_182 (by decide) ?_
        cases hF
        exact V_ireturn dX4_lay_183 rfl (by decide) ⟨rfl, rfl⟩
    · replace hF := (if_neg c).symm.trans hF
      refine V_iload dX4_lay_86 rfl ?_
      refine V_iconst (v := 3) dX4_lay_88 (by decide) ?_
      refine V_icmp_ge (tgt := 173) dX4_lay_89 (by decide) (fun c => ?_) (fun c => ?_)
      · replace hF := (if_pos c).symm.trans hF
        refine V_aload_n dX4_lay_173 rfl ?_
        refine X_gI G dX4_lay_174 fX4_45 ht.1 rfl ?_
        refine V_iconst (v := 2) dX4_lay_177 (by decide) ?_
        refine V_irem dX4_lay_178 (by decide) ?_
        refine V_if_eq (tgt := 184) dX4_lay_179 (by decide) (fun c => ?_) (fun c => ?_)
        · replace hF := (if_pos c).symm.trans hF
          refine V_aload_n dX4_lay_184 rfl ?_
          refine V_aload_n dX4_lay_185 rfl ?_
          obtain ⟨y3, hc, hF⟩ := bd hF
          refine V_callV G dX4_lay_186 kX4_68 (wd_at ht.1) ⟨by decide, rfl⟩ (s_X4_markKinds ht hp1 G hc (by omega)) rfl (Nat.le_of_ble_eq_true rfl) (fun _ _ _ q => q.elim) ?_
          rintro _ _ ⟨rfl, rfl⟩
          refine V_aload_n dX4_lay_189 rfl ?_
          obtain ⟨y4, hc, hF⟩ := bd hF
          refine V_callV G dX4_lay_190 kX4_72 (wd_at ht.1) ⟨by decide, rfl⟩ (s_X4_countNamings ht G hc (by omega)) rfl (Nat.le_of_ble_eq_true rfl) (fun _ _ _ q => q.elim) ?_
          rintro _ _ ⟨rfl, rfl⟩
          refine V_iconst (v := 1) dX4_lay_193 (by decide) ?_
          cases hF
          exact V_ireturn dX4_lay_194 rfl (by decide) ⟨rfl, rfl⟩
        · replace hF := (if_neg c).symm.trans hF
          refine V_iconst (v := 0) dX4_lay_182 (by decide) ?_
          cases hF
          exact V_ireturn dX4_lay_183 rfl (by decide) ⟨rfl, rfl⟩
      · replace hF := (if_neg c).symm.trans hF
        refine V_iload dX4_lay_92 rfl ?_
        refine V_iload_n dX4_lay_94 rfl ?_
        refine V_iload dX4_lay_95 rfl ?_
        obtain ⟨y5, hc, hF⟩ := bd hF
        refine V_callS dX4_lay_97 kX4_51 (s_X3_ruleIn G hc (by omega)) rfl (Nat.le_of_ble_eq_true rfl) (fun _ _ _ q => q.elim) ?_
        rintro _ _ ⟨rfl, rfl⟩
        refine V_istore dX4_lay_100 (by decide) ?_
        refine V_iload dX4_lay_102 rfl ?_
        refine V_aload_n dX4_lay_104 rfl ?_
        refine X_gI G dX4_lay_105 fX4_57 hp1.1 rfl ?_
        refine V_icmp_ge (tgt := 130) dX4_lay_108 (by decide) (fun c => ?_) (fun c => ?_)
        · replace hF := (if_pos c).symm.trans hF
          refine V_iconst (v := 0) dX4_lay_130 (by decide) ?_
          cases hF
          exact V_ireturn dX4_lay_131 rfl (by decide) ⟨rfl, rfl⟩
        · replace hF := (if_neg c).symm.trans hF
          refine V_iload dX4_lay_111 rfl ?_
          refine V_if_le (tgt := 132) dX4_lay_113 (by decide) (fun c => ?_) (fun c => ?_)
          · replace hF := (if_pos c).symm.trans hF
            exact V_lv' (w_X4_lay_L132 ht hp1 hp2 G hd ih _ _ _ hF) (v_all_c rfl (v_all_c rfl (v_all_c rfl (v_all_c rfl (v_all_c rfl (v_all_c rfl v_all_n))))))
          · replace hF := (if_neg c).symm.trans hF
            refine V_iload dX4_lay_116 rfl ?_
            refine V_aload_n dX4_lay_118 rfl ?_
            refine X_gC G dX4_lay_119 fX4_27 ht.1 rfl ?_
            refine V_iload dX4_lay_122 rfl ?_
            refine V_iconst (v := 1) dX4_lay_124 (by decide) ?_
            refine V_isub dX4_lay_125 ?_
            obtain ⟨hz, hF⟩ := gv_out hF
            refine X_iald dX4_lay_126 ht.2.2.2.2.2.2.1 hz ?_
            refine V_icmp_ge (tgt := 132) dX4_lay_127 (by decide) (fun c => ?_) (fun c => ?_)
            · replace hF := (if_pos c).symm.trans hF
              exact V_lv' (w_X4_lay_L132 ht hp1 hp2 G hd ih _ _ _ hF) (v_all_c rfl (v_all_c rfl (v_all_c rfl (v_all_c rfl (v_all_c rfl (v_all_c rfl v_all_n))))))
            · replace hF := (if_neg c).symm.trans hF
              refine V_iconst (v := 0) dX4_lay_130 (by decide) ?_
              cases hF
              exact V_ireturn dX4_lay_131 rfl (by decide) ⟨rfl, rfl⟩
set_option maxRecDepth 100000 in
set_option maxHeartbeats 4000000 in
theorem w_X4_lay_L24 {l : Launch} {s0 : State} {D : va_G} {a0 : Array Value} {sh : List Sh} {f : Nat} {t : Nat} {p1 : Nat} {p2 : Nat} {p3 : Int32} {p4 : Int32} (ht : isX4 sh t) (hp1 : isX0 sh p1) (hp2 : isX1 sh p2) {r : Int32 × St} {d : Nat} (G : GC l s0 D a0) (hd : 4 ≤ d + 1) : ∀ (n : Nat) (S : St) (l5 : Int32), F_X4_lay_L24 sh f t p1 p2 p3 p4 n S l5 = some r → V l s0 D (d + 1) 0 0 mX4_lay (fun v h => v = some (.int r.1) ∧ h = wd s0.heap.size sh r.2) v_noX 24 [(0, .ref (s0.heap.size + t)), (1, .ref (s0.heap.size + p1)), (2, .ref (s0.heap.size + p2)), (3, .int p3), (4, .int p4), (5, .int l5)] [] (wd s0.heap.size sh S) := by
  intro n
  induction n with
  | zero => intro S l5 hF; cases hF
  | succ n ih =>
    intro S l5 hF
    unfold F_X4_lay_L24 at hF
    refine V_iload dX4_lay_24 rfl ?_
    refine V_aload_n dX4_lay_26 rfl ?_
    refine X_gI G dX4_lay_27 fX4_42 ht.1 rfl ?_
    refine V_icmp_ge (tgt := 77) dX4_lay_30 (by decide) (fun c => ?_) (fun c => ?_)
    · replace hF := (if_pos c).symm.trans hF
      refine V_iconst (v := 0) dX4_lay_77 (by decide) ?_
      refine V_istore dX4_lay_78 (by decide) ?_
      exact V_lv' (w_X4_lay_L80 ht hp1 hp2 G hd f _ _ hF) (v_all_c rfl (v_all_c rfl (v_all_c rfl (v_all_c rfl (v_all_c rfl v_all_n)))))
    · replace hF := (if_neg c).symm.trans hF
      refine V_iload dX4_lay_33 rfl ?_
      refine V_bipush (v := 6) dX4_lay_35 (by decide) ?_
      refine V_icmp_ge (tgt := 77) dX4_lay_37 (by decide) (fun c => ?_) (fun c => ?_)
      · replace hF := (if_pos c).symm.trans hF
        refine V_iconst (v := 0) dX4_lay_77 (by decide) ?_
        refine V_istore dX4_lay_78 (by decide) ?_
        exact V_lv' (w_X4_lay_L80 ht hp1 hp2 G hd f _ _ hF) (v_all_c rfl (v_all_c rfl (v_all_c rfl (v_all_c rfl (v_all_c rfl v_all_n)))))
      · replace hF := (if_neg c).symm.trans hF
        refine V_aload_n dX4_lay_40 rfl ?_
        refine X_gC G dX4_lay_41 fX4_9 ht.1 rfl ?_
        refine V_iload dX4_lay_44 rfl ?_
        refine V_aload_n dX4_lay_46 rfl ?_
        refine X_gC G dX4_lay_47 fX4_48 hp2.1 rfl ?_
        refine V_iload dX4_lay_50 rfl ?_
        obtain ⟨hz, hF⟩ := gv_out hF
        refine X_iald dX4_lay_52 hp2.2.1 hz ?_
        obtain ⟨hz, hF⟩ := gv_out hF
        refine X_iast dX4_lay_53 ht.2.1 hz ?_
        obtain ⟨S1, qS1, hF⟩ := bnd_g hF
        refine V_eqS qS1 ?_
        refine V_aload_n dX4_lay_54 rfl ?_
        refine X_gC G dX4_lay_55 fX4_15 ht.1 rfl ?_
        refine V_iload dX4_lay_58 rfl ?_
        refine V_iconst (v := -1) dX4_lay_60 (by decide) ?_
        obtain ⟨hz, hF⟩ := gv_out hF
        refine X_iast dX4_lay_61 ht.2.2.1 hz ?_
        obtain ⟨S2, qS2, hF⟩ := bnd_g hF
        refine V_eqS qS2 ?_
        refine V_aload_n dX4_lay_62 rfl ?_
        refine X_gC G dX4_lay_63 fX4_18 ht.1 rfl ?_
        refine V_iload dX4_lay_66 rfl ?_
        refine V_iload dX4_lay_68 rfl ?_
        obtain ⟨hz, hF⟩ := gv_out hF
        refine X_iast dX4_lay_70 ht.2.2.2.1 hz ?_
        obtain ⟨S3, qS3, hF⟩ := bnd_g hF
        refine V_eqS qS3 ?_
        obtain ⟨x4, qx4, hF⟩ := bnd_g hF
        refine B_iinc (v := 1) qx4 dX4_lay_71 rfl (by decide) (by decide) ?_
        refine V_goto (tgt := 24) dX4_lay_74 (by decide) ?_
        exact V_lv' (ih _ _ hF) (v_all_c rfl (v_all_c rfl (v_all_c rfl (v_all_c rfl (v_all_c rfl (v_all_c rfl v_all_n))))))
set_option maxRecDepth 100000 in
set_option maxHeartbeats 4000000 in
theorem s_X4_lay {l : Launch} {s0 : State} {D : va_G} {a0 : Array Value} {sh : List Sh} {f : Nat} {S : St} {t : Nat} {p1 : Nat} {p2 : Nat} {p3 : Int32} {p4 : Int32} (ht : isX4 sh t) (hp1 : isX0 sh p1) (hp2 : isX1 sh p2) {r : Int32 × St} (G : GC l s0 D a0) (hF : F_X4_lay sh f S t p1 p2 p3 p4 = some r) {d : Nat} (hd : 4 ≤ d) : Sp l s0 D d 0 0 mX4_lay (fun v h => v = some (.int r.1) ∧ h = wd s0.heap.size sh r.2) v_noX [.ref (s0.heap.size + t), .ref (s0.heap.size + p1), .ref (s0.heap.size + p2), .int p3, .int p4] (wd s0.heap.size sh S) := by
  obtain ⟨d, rfl⟩ : ∃ e, d = e + 1 := ⟨d - 1, by omega⟩
  refine Sp.of (by decide +kernel) rfl (Nat.le_of_ble_eq_true rfl) ?_
  unfold F_X4_lay at hF
  refine V_aload_n dX4_lay_0 rfl ?_
  refine V_iload_n dX4_lay_1 rfl ?_
  refine X_pI G dX4_lay_2 gX4_33 ht.1 rfl rfl rfl ?_
  obtain ⟨S1, qS1, hF⟩ := bnd_g hF
  refine V_eqS qS1 ?_
  refine V_aload_n dX4_lay_5 rfl ?_
  refine V_aload_n dX4_lay_6 rfl ?_
  refine X_gI G dX4_lay_7 fX4_37 hp2.1 rfl ?_
  refine X_pI G dX4_lay_10 gX4_42 ht.1 rfl rfl rfl ?_
  obtain ⟨S2, qS2, hF⟩ := bnd_g hF
  refine V_eqS qS2 ?_
  refine V_aload_n dX4_lay_13 rfl ?_
  refine V_aload_n dX4_lay_14 rfl ?_
  refine X_gI G dX4_lay_15 fX4_42 ht.1 rfl ?_
  refine X_pI G dX4_lay_18 gX4_45 ht.1 rfl rfl rfl ?_
  obtain ⟨S3, qS3, hF⟩ := bnd_g hF
  refine V_eqS qS3 ?_
  refine V_iconst (v := 0) dX4_lay_21 (by decide) ?_
  refine V_istore dX4_lay_22 (by decide) ?_
  exact V_lv' (w_X4_lay_L24 ht hp1 hp2 G hd f _ _ hF) (v_all_c rfl (v_all_c rfl (v_all_c rfl (v_all_c rfl (v_all_c rfl (v_all_c rfl v_all_n))))))
set_option maxRecDepth 100000 in
set_option maxHeartbeats 4000000 in
theorem s_X4_allLegs {l : Launch} {s0 : State} {D : va_G} {a0 : Array Value} {sh : List Sh} {f : Nat} {S : St} {t : Nat} (ht : isX4 sh t) {r : Int32} (G : GC l s0 D a0) (hF : F_X4_allLegs sh f S t = some r) {d : Nat} (hd : 1 ≤ d) : Sp l s0 D d 0 0 mX4_allLegs (fun v h => v = some (.int r) ∧ h = wd s0.heap.size sh S) v_noX [.ref (s0.heap.size + t)] (wd s0.heap.size sh S) := by
  obtain ⟨d, rfl⟩ : ∃ e, d = e + 1 := ⟨d - 1, by omega⟩
  refine Sp.of (by decide +kernel) rfl (Nat.le_of_ble_eq_true rfl) ?_
  unfold F_X4_allLegs at hF
  refine V_iconst (v := 1) dX4_allLegs_0 (by decide) ?_
  refine V_aload_n dX4_allLegs_1 rfl ?_
  refine X_gI G dX4_allLegs_2 fX4_45 ht.1 rfl ?_
  refine V_ishl dX4_allLegs_5 ?_
  refine V_iconst (v := 1) dX4_allLegs_6 (by decide) ?_
  refine V_isub dX4_allLegs_7 ?_
  cases hF
  exact V_ireturn dX4_allLegs_8 rfl rfl ⟨rfl, rfl⟩
set_option maxRecDepth 100000 in
set_option maxHeartbeats 4000000 in
theorem s_X4_pointBit {l : Launch} {s0 : State} {D : va_G} {a0 : Array Value} {sh : List Sh} {f : Nat} {S : St} {t : Nat} {p1 : Int32} (ht : isX4 sh t) {r : Int32} (G : GC l s0 D a0) (hF : F_X4_pointBit sh f S t p1 = some r) {d : Nat} (hd : 1 ≤ d) : Sp l s0 D d 0 0 mX4_pointBit (fun v h => v = some (.int r) ∧ h = wd s0.heap.size sh S) v_noX [.ref (s0.heap.size + t), .int p1] (wd s0.heap.size sh S) := by
  obtain ⟨d, rfl⟩ : ∃ e, d = e + 1 := ⟨d - 1, by omega⟩
  refine Sp.of (by decide +kernel) rfl (Nat.le_of_ble_eq_true rfl) ?_
  unfold F_X4_pointBit at hF
  refine V_aload_n dX4_pointBit_0 rfl ?_
  refine X_gC G dX4_pointBit_1 fX4_15 ht.1 rfl ?_
  refine V_iload_n dX4_pointBit_4 rfl ?_
  obtain ⟨hz, hF⟩ := gv_out hF
  refine X_iald dX4_pointBit_5 ht.2.2.1 hz ?_
  refine V_if_ge (tgt := 13) dX4_pointBit_6 (by decide) (fun c => ?_) (fun c => ?_)
  · replace hF := (if_pos c).symm.trans hF
    refine V_iconst (v := 1) dX4_pointBit_13 (by decide) ?_
    refine V_aload_n dX4_pointBit_14 rfl ?_
    refine X_gC G dX4_pointBit_15 fX4_15 ht.1 rfl ?_
    refine V_iload_n dX4_pointBit_18 rfl ?_
    obtain ⟨hz, hF⟩ := gv_out hF
    refine X_iald dX4_pointBit_19 ht.2.2.1 hz ?_
    refine V_ishl dX4_pointBit_20 ?_
    cases hF
    exact V_ireturn dX4_pointBit_21 rfl rfl ⟨rfl, rfl⟩
  · replace hF := (if_neg c).symm.trans hF
    refine V_iconst (v := 0) dX4_pointBit_9 (by decide) ?_
    refine V_goto (tgt := 21) dX4_pointBit_10 (by decide) ?_
    cases hF
    exact V_ireturn dX4_pointBit_21 rfl rfl ⟨rfl, rfl⟩
set_option maxRecDepth 100000 in
set_option maxHeartbeats 4000000 in
theorem s_X4_link {l : Launch} {s0 : State} {D : va_G} {a0 : Array Value} {sh : List Sh} {f : Nat} {S : St} {t : Nat} {p1 : Int32} {p2 : Int32} (ht : isX4 sh t) {r : Int32} (G : GC l s0 D a0) (hF : F_X4_link sh f S t p1 p2 = some r) {d : Nat} (hd : 1 ≤ d) : Sp l s0 D d 0 0 mX4_link (fun v h => v = some (.int r) ∧ h = wd s0.heap.size sh S) v_noX [.ref (s0.heap.size + t), .int p1, .int p2] (wd s0.heap.size sh S) := by
  obtain ⟨d, rfl⟩ : ∃ e, d = e + 1 := ⟨d - 1, by omega⟩
  refine Sp.of (by decide +kernel) rfl (Nat.le_of_ble_eq_true rfl) ?_
  unfold F_X4_link at hF
  refine V_aload_n dX4_link_0 rfl ?_
  refine X_gC G dX4_link_1 fX4_15 ht.1 rfl ?_
  refine V_iload_n dX4_link_4 rfl ?_
  obtain ⟨hz, hF⟩ := gv_out hF
  refine X_iald dX4_link_5 ht.2.2.1 hz ?_
  obtain ⟨x1, qx1, hF⟩ := bnd_g hF
  refine B_istore_n qx1 dX4_link_6 (by decide) ?_
  refine V_aload_n dX4_link_7 rfl ?_
  refine X_gC G dX4_link_8 fX4_15 ht.1 rfl ?_
  refine V_iload_n dX4_link_11 rfl ?_
  obtain ⟨hz, hF⟩ := gv_out hF
  refine X_iald dX4_link_12 ht.2.2.1 hz ?_
  obtain ⟨x2, qx2, hF⟩ := bnd_g hF
  refine B_istore qx2 dX4_link_13 (by decide) ?_
  refine V_iload_n dX4_link_15 rfl ?_
  refine V_if_lt (tgt := 30) dX4_link_16 (by decide) (fun c => ?_) (fun c => ?_)
  · replace hF := (if_pos c).symm.trans hF
    refine V_iconst (v := 0) dX4_link_30 (by decide) ?_
    refine V_goto (tgt := 42) dX4_link_31 (by decide) ?_
    cases hF
    exact V_ireturn dX4_link_42 rfl rfl ⟨rfl, rfl⟩
  · replace hF := (if_neg c).symm.trans hF
    refine V_iload dX4_link_19 rfl ?_
    refine V_if_lt (tgt := 30) dX4_link_21 (by decide) (fun c => ?_) (fun c => ?_)
    · replace hF := (if_pos c).symm.trans hF
      refine V_iconst (v := 0) dX4_link_30 (by decide) ?_
      refine V_goto (tgt := 42) dX4_link_31 (by decide) ?_
      cases hF
      exact V_ireturn dX4_link_42 rfl rfl ⟨rfl, rfl⟩
    · replace hF := (if_neg c).symm.trans hF
      refine V_iload_n dX4_link_24 rfl ?_
      refine V_iload dX4_link_25 rfl ?_
      refine V_icmp_ne (tgt := 34) dX4_link_27 (by decide) (fun c => ?_) (fun c => ?_)
      · replace hF := (if_neg c).symm.trans hF
        refine V_iconst (v := 1) dX4_link_34 (by decide) ?_
        refine V_iload_n dX4_link_35 rfl ?_
        refine V_iload dX4_link_36 rfl ?_
        refine V_iadd dX4_link_38 ?_
        refine V_iconst (v := 1) dX4_link_39 (by decide) ?_
        refine V_isub dX4_link_40 ?_
        refine V_ishl dX4_link_41 ?_
        cases hF
        exact V_ireturn dX4_link_42 rfl rfl ⟨rfl, rfl⟩
      · replace hF := (if_pos c).symm.trans hF
        refine V_iconst (v := 0) dX4_link_30 (by decide) ?_
        refine V_goto (tgt := 42) dX4_link_31 (by decide) ?_
        cases hF
        exact V_ireturn dX4_link_42 rfl rfl ⟨rfl, rfl⟩
set_option maxRecDepth 100000 in
set_option maxHeartbeats 4000000 in
theorem s_X4_hangs {l : Launch} {s0 : State} {D : va_G} {a0 : Array Value} {sh : List Sh} {f : Nat} {S : St} {t : Nat} {p1 : Int32} (ht : isX4 sh t) {r : Int32} (G : GC l s0 D a0) (hF : F_X4_hangs sh f S t p1 = some r) {d : Nat} (hd : 2 ≤ d) : Sp l s0 D d 0 0 mX4_hangs (fun v h => v = some (.int r) ∧ h = wd s0.heap.size sh S) v_noX [.ref (s0.heap.size + t), .int p1] (wd s0.heap.size sh S) := by
  obtain ⟨d, rfl⟩ : ∃ e, d = e + 1 := ⟨d - 1, by omega⟩
  refine Sp.of (by decide +kernel) rfl (Nat.le_of_ble_eq_true rfl) ?_
  unfold F_X4_hangs at hF
  refine V_iload_n dX4_hangs_0 rfl ?_
  obtain ⟨y1, hc, hF⟩ := bd hF
  refine V_callS dX4_hangs_1 kX4_95 (s_J6_bitCount_0f7a4 G hc (by omega)) rfl (Nat.le_of_ble_eq_true rfl) (fun _ _ _ q => q.elim) ?_
  rintro _ _ ⟨rfl, rfl⟩
  refine V_aload_n dX4_hangs_4 rfl ?_
  refine X_gI G dX4_hangs_5 fX4_33 ht.1 rfl ?_
  refine V_iconst (v := 1) dX4_hangs_8 (by decide) ?_
  refine V_isub dX4_hangs_9 ?_
  refine V_icmp_lt (tgt := 17) dX4_hangs_10 (by decide) (fun c => ?_) (fun c => ?_)
  · replace hF := (if_pos c).symm.trans hF
    refine V_iconst (v := 0) dX4_hangs_17 (by decide) ?_
    cases hF
    exact V_ireturn dX4_hangs_18 rfl (by decide) ⟨rfl, rfl⟩
  · replace hF := (if_neg c).symm.trans hF
    refine V_iconst (v := 1) dX4_hangs_13 (by decide) ?_
    refine V_goto (tgt := 18) dX4_hangs_14 (by decide) ?_
    cases hF
    exact V_ireturn dX4_hangs_18 rfl (by decide) ⟨rfl, rfl⟩
set_option maxRecDepth 100000 in
set_option maxHeartbeats 4000000 in
theorem s_X4_mayJoin {l : Launch} {s0 : State} {D : va_G} {a0 : Array Value} {sh : List Sh} {f : Nat} {S : St} {t : Nat} {p1 : Int32} {p2 : Int32} {p3 : Int32} (ht : isX4 sh t) {r : Int32} (G : GC l s0 D a0) (hF : F_X4_mayJoin sh f S t p1 p2 p3 = some r) {d : Nat} (hd : 1 ≤ d) : Sp l s0 D d 0 0 mX4_mayJoin (fun v h => v = some (.int r) ∧ h = wd s0.heap.size sh S) v_noX [.ref (s0.heap.size + t), .int p1, .int p2, .int p3] (wd s0.heap.size sh S) := by
  obtain ⟨d, rfl⟩ : ∃ e, d = e + 1 := ⟨d - 1, by omega⟩
  refine Sp.of (by decide +kernel) rfl (Nat.le_of_ble_eq_true rfl) ?_
  unfold F_X4_mayJoin at hF
  refine V_iload_n dX4_mayJoin_0 rfl ?_
  refine V_aload_n dX4_mayJoin_1 rfl ?_
  refine X_gC G dX4_mayJoin_2 fX4_24 ht.1 rfl ?_
  refine V_iload_n dX4_mayJoin_5 rfl ?_
  obtain ⟨hz, hF⟩ := gv_out hF
  refine X_iald dX4_mayJoin_6 ht.2.2.2.2.2.1 hz ?_
  refine V_iand dX4_mayJoin_7 ?_
  refine V_iload_n dX4_mayJoin_8 rfl ?_
  refine V_ishr dX4_mayJoin_9 ?_
  refine V_iconst (v := 1) dX4_mayJoin_10 (by decide) ?_
  refine V_iand dX4_mayJoin_11 ?_
  refine V_if_eq (tgt := 19) dX4_mayJoin_12 (by decide) (fun c => ?_) (fun c => ?_)
  · replace hF := (if_pos c).symm.trans hF
    refine V_iconst (v := 0) dX4_mayJoin_19 (by decide) ?_
    cases hF
    exact V_ireturn dX4_mayJoin_20 rfl (by decide) ⟨rfl, rfl⟩
  · replace hF := (if_neg c).symm.trans hF
    refine V_iconst (v := 1) dX4_mayJoin_15 (by decide) ?_
    refine V_goto (tgt := 20) dX4_mayJoin_16 (by decide) ?_
    cases hF
    exact V_ireturn dX4_mayJoin_20 rfl (by decide) ⟨rfl, rfl⟩
set_option maxRecDepth 100000 in
set_option maxHeartbeats 4000000 in
theorem s_X4_mayLead {l : Launch} {s0 : State} {D : va_G} {a0 : Array Value} {sh : List Sh} {f : Nat} {S : St} {t : Nat} {p1 : Int32} {p2 : Int32} {p3 : Int32} {p4 : Int32} (ht : isX4 sh t) {r : Int32} (G : GC l s0 D a0) (hF : F_X4_mayLead sh f S t p1 p2 p3 p4 = some r) {d : Nat} (hd : 2 ≤ d) : Sp l s0 D d 0 0 mX4_mayLead (fun v h => v = some (.int r) ∧ h = wd s0.heap.size sh S) v_noX [.ref (s0.heap.size + t), .int p1, .int p2, .int p3, .int p4] (wd s0.heap.size sh S) := by
  obtain ⟨d, rfl⟩ : ∃ e, d = e + 1 := ⟨d - 1, by omega⟩
  refine Sp.of (by decide +kernel) rfl (Nat.le_of_ble_eq_true rfl) ?_
  unfold F_X4_mayLead at hF
  refine V_aload_n dX4_mayLead_0 rfl ?_
  refine V_iload_n dX4_mayLead_1 rfl ?_
  refine V_iload_n dX4_mayLead_2 rfl ?_
  refine V_iload_n dX4_mayLead_3 rfl ?_
  obtain ⟨y1, hc, hF⟩ := bd hF
  refine V_callV G dX4_mayLead_4 kX4_101 (wd_at ht.1) ⟨by decide, rfl⟩ (s_X4_mayJoin ht G hc (by omega)) rfl (Nat.le_of_ble_eq_true rfl) (fun _ _ _ q => q.elim) ?_
  rintro _ _ ⟨rfl, rfl⟩
  refine V_if_eq (tgt := 27) dX4_mayLead_7 (by decide) (fun c => ?_) (fun c => ?_)
  · replace hF := (if_pos c).symm.trans hF
    refine V_iconst (v := 0) dX4_mayLead_27 (by decide) ?_
    cases hF
    exact V_ireturn dX4_mayLead_28 rfl (by decide) ⟨rfl, rfl⟩
  · replace hF := (if_neg c).symm.trans hF
    refine V_iload_n dX4_mayLead_10 rfl ?_
    refine V_aload_n dX4_mayLead_11 rfl ?_
    refine X_gC G dX4_mayLead_12 fX4_21 ht.1 rfl ?_
    refine V_iload_n dX4_mayLead_15 rfl ?_
    obtain ⟨hz, hF⟩ := gv_out hF
    refine X_iald dX4_mayLead_16 ht.2.2.2.2.1 hz ?_
    refine V_iand dX4_mayLead_17 ?_
    refine V_iconst (v := 1) dX4_mayLead_18 (by decide) ?_
    refine V_iload_n dX4_mayLead_19 rfl ?_
    refine V_ishl dX4_mayLead_20 ?_
    refine V_iconst (v := 1) dX4_mayLead_21 (by decide) ?_
    refine V_isub dX4_mayLead_22 ?_
    refine V_iand dX4_mayLead_23 ?_
    refine V_if_eq (tgt := 29) dX4_mayLead_24 (by decide) (fun c => ?_) (fun c => ?_)
    · replace hF := (if_pos c).symm.trans hF
      refine V_aload_n dX4_mayLead_29 rfl ?_
      refine X_gC G dX4_mayLead_30 fX4_15 ht.1 rfl ?_
      refine V_iload_n dX4_mayLead_33 rfl ?_
      obtain ⟨hz, hF⟩ := gv_out hF
      refine X_iald dX4_mayLead_34 ht.2.2.1 hz ?_
      obtain ⟨x2, qx2, hF⟩ := bnd_g hF
      refine B_istore qx2 dX4_mayLead_35 (by decide) ?_
      refine V_iload dX4_mayLead_37 rfl ?_
      refine V_aload_n dX4_mayLead_39 rfl ?_
      refine V_iload_n dX4_mayLead_40 rfl ?_
      obtain ⟨y3, hc, hF⟩ := bd hF
      refine V_callV G dX4_mayLead_41 kX4_105 (wd_at ht.1) ⟨by decide, rfl⟩ (s_X4_pointBit ht G hc (by omega)) rfl (Nat.le_of_ble_eq_true rfl) (fun _ _ _ q => q.elim) ?_
      rintro _ _ ⟨rfl, rfl⟩
      refine V_ior dX4_mayLead_44 ?_
      obtain ⟨x4, qx4, hF⟩ := bnd_g hF
      refine B_istore qx4 dX4_mayLead_45 (by decide) ?_
      refine V_aload_n dX4_mayLead_47 rfl ?_
      refine V_iload dX4_mayLead_48 rfl ?_
      obtain ⟨y5, hc, hF⟩ := bd hF
      refine V_callV G dX4_mayLead_50 kX4_92 (wd_at ht.1) ⟨by decide, rfl⟩ (s_X4_followsAlike ht G hc (by omega)) rfl (Nat.le_of_ble_eq_true rfl) (fun _ _ _ q => q.elim) ?_
      rintro _ _ ⟨rfl, rfl⟩
      refine V_if_eq (tgt := 68) dX4_mayLead_53 (by decide) (fun c => ?_) (fun c => ?_)
      · replace hF := (if_pos c).symm.trans hF
        refine V_iconst (v := 1) dX4_mayLead_68 (by decide) ?_
        refine V_goto (tgt := 73) dX4_mayLead_69 (by decide) ?_
        cases hF
        exact V_ireturn dX4_mayLead_73 rfl (by decide) ⟨rfl, rfl⟩
      · replace hF := (if_neg c).symm.trans hF
        refine V_iload dX4_mayLead_56 rfl ?_
        refine V_iload dX4_mayLead_58 rfl ?_
        refine V_iconst (v := 1) dX4_mayLead_60 (by decide) ?_
        refine V_isub dX4_mayLead_61 ?_
        refine V_ishr dX4_mayLead_62 ?_
        refine V_iconst (v := 3) dX4_mayLead_63 (by decide) ?_
        refine V_iand dX4_mayLead_64 ?_
        refine V_if_eq (tgt := 72) dX4_mayLead_65 (by decide) (fun c => ?_) (fun c => ?_)
        · replace hF := (if_pos c).symm.trans hF
          refine V_iconst (v := 0) dX4_mayLead_72 (by decide) ?_
          cases hF
          exact V_ireturn dX4_mayLead_73 rfl (by decide) ⟨rfl, rfl⟩
        · replace hF := (if_neg c).symm.trans hF
          refine V_iconst (v := 1) dX4_mayLead_68 (by decide) ?_
          refine V_goto (tgt := 73) dX4_mayLead_69 (by decide) ?_
          cases hF
          exact V_ireturn dX4_mayLead_73 rfl (by decide) ⟨rfl, rfl⟩
    · replace hF := (if_neg c).symm.trans hF
      refine V_iconst (v := 0) dX4_mayLead_27 (by decide) ?_
      cases hF
      exact V_ireturn dX4_mayLead_28 rfl (by decide) ⟨rfl, rfl⟩
set_option maxRecDepth 100000 in
set_option maxHeartbeats 4000000 in
theorem s_X4_signOf {l : Launch} {s0 : State} {D : va_G} {a0 : Array Value} {sh : List Sh} {f : Nat} {S : St} {t : Nat} {p1 : Int32} {p2 : Int32} {p3 : Int32} (ht : isX4 sh t) {r : Int32} (G : GC l s0 D a0) (hF : F_X4_signOf sh f S t p1 p2 p3 = some r) {d : Nat} (hd : 2 ≤ d) : Sp l s0 D d 0 0 mX4_signOf (fun v h => v = some (.int r) ∧ h = wd s0.heap.size sh S) v_noX [.ref (s0.heap.size + t), .int p1, .int p2, .int p3] (wd s0.heap.size sh S) := by
  obtain ⟨d, rfl⟩ : ∃ e, d = e + 1 := ⟨d - 1, by omega⟩
  refine Sp.of (by decide +kernel) rfl (Nat.le_of_ble_eq_true rfl) ?_
  unfold F_X4_signOf at hF
  refine V_aload_n dX4_signOf_0 rfl ?_
  refine X_gI G dX4_signOf_1 fX4_76 ht.1 rfl ?_
  refine V_iload_n dX4_signOf_4 rfl ?_
  refine V_ishr dX4_signOf_5 ?_
  refine V_iconst (v := 1) dX4_signOf_6 (by decide) ?_
  refine V_iand dX4_signOf_7 ?_
  refine V_if_ne (tgt := 13) dX4_signOf_8 (by decide) (fun c => ?_) (fun c => ?_)
  · replace hF := (if_neg c).symm.trans hF
    refine V_iload_n dX4_signOf_13 rfl ?_
    refine V_aload_n dX4_signOf_14 rfl ?_
    refine X_gI G dX4_signOf_15 fX4_76 ht.1 rfl ?_
    refine V_iand dX4_signOf_18 ?_
    refine V_iconst (v := 1) dX4_signOf_19 (by decide) ?_
    refine V_iload_n dX4_signOf_20 rfl ?_
    refine V_ishl dX4_signOf_21 ?_
    refine V_iconst (v := 1) dX4_signOf_22 (by decide) ?_
    refine V_isub dX4_signOf_23 ?_
    refine V_iand dX4_signOf_24 ?_
    obtain ⟨y1, hc, hF⟩ := bd hF
    refine V_callS dX4_signOf_25 kX4_95 (s_J6_bitCount_0f7a4 G hc (by omega)) rfl (Nat.le_of_ble_eq_true rfl) (fun _ _ _ q => q.elim) ?_
    rintro _ _ ⟨rfl, rfl⟩
    refine V_istore dX4_signOf_28 (by decide) ?_
    refine V_aload_n dX4_signOf_30 rfl ?_
    refine X_gI G dX4_signOf_31 fX4_79 ht.1 rfl ?_
    refine V_iload_n dX4_signOf_34 rfl ?_
    refine V_ishr dX4_signOf_35 ?_
    refine V_iconst (v := 1) dX4_signOf_36 (by decide) ?_
    refine V_iand dX4_signOf_37 ?_
    obtain ⟨x2, qx2, hF⟩ := bnd_g hF
    refine B_istore qx2 dX4_signOf_38 (by decide) ?_
    refine V_iload dX4_signOf_40 rfl ?_
    refine V_iload dX4_signOf_42 rfl ?_
    refine V_iadd dX4_signOf_44 ?_
    refine V_iconst (v := 2) dX4_signOf_45 (by decide) ?_
    refine V_irem dX4_signOf_46 (by decide) ?_
    refine V_if_ne (tgt := 54) dX4_signOf_47 (by decide) (fun c => ?_) (fun c => ?_)
    · replace hF := (if_neg c).symm.trans hF
      refine V_iconst (v := -1) dX4_signOf_54 (by decide) ?_
      cases hF
      exact V_ireturn dX4_signOf_55 rfl rfl ⟨rfl, rfl⟩
    · replace hF := (if_pos c).symm.trans hF
      refine V_iconst (v := 1) dX4_signOf_50 (by decide) ?_
      refine V_goto (tgt := 55) dX4_signOf_51 (by decide) ?_
      cases hF
      exact V_ireturn dX4_signOf_55 rfl rfl ⟨rfl, rfl⟩
  · replace hF := (if_pos c).symm.trans hF
    refine V_iconst (v := 1) dX4_signOf_11 (by decide) ?_
    cases hF
    exact V_ireturn dX4_signOf_12 rfl rfl ⟨rfl, rfl⟩
set_option maxRecDepth 100000 in
set_option maxHeartbeats 4000000 in
theorem w_X4_keepsRules_L2 {l : Launch} {s0 : State} {D : va_G} {a0 : Array Value} {sh : List Sh} {f : Nat} {S : St} {t : Nat} {p1 : Int32} (ht : isX4 sh t) {r : Int32} {d : Nat} (G : GC l s0 D a0) (hd : 1 ≤ d + 1) : ∀ (n : Nat) (l2 : Int32), F_X4_keepsRules_L2 sh f S t p1 n l2 = some r → V l s0 D (d + 1) 0 0 mX4_keepsRules (fun v h => v = some (.int r) ∧ h = wd s0.heap.size sh S) v_noX 2 [(0, .ref (s0.heap.size + t)), (1, .int p1), (2, .int l2)] [] (wd s0.heap.size sh S) := by
  intro n
  induction n with
  | zero => intro l2 hF; cases hF
  | succ n ih =>
    intro l2 hF
    unfold F_X4_keepsRules_L2 at hF
    refine V_iload_n dX4_keepsRules_2 rfl ?_
    refine V_iconst (v := 3) dX4_keepsRules_3 (by decide) ?_
    refine V_icmp_ge (tgt := 64) dX4_keepsRules_4 (by decide) (fun c => ?_) (fun c => ?_)
    · replace hF := (if_pos c).symm.trans hF
      refine V_iconst (v := 1) dX4_keepsRules_64 (by decide) ?_
      cases hF
      exact V_ireturn dX4_keepsRules_65 rfl (by decide) ⟨rfl, rfl⟩
    · replace hF := (if_neg c).symm.trans hF
      refine V_gtab G dX4_keepsRules_7 (v_tb0) zX4_108 (fun a1 ha1 => ?_)
      refine V_iload_n dX4_keepsRules_10 rfl ?_
      refine V_iconst (v := 3) dX4_keepsRules_11 (by decide) ?_
      refine V_imul dX4_keepsRules_12 ?_
      refine V_iload_n dX4_keepsRules_13 rfl ?_
      refine V_iadd dX4_keepsRules_14 ?_
      obtain ⟨hz, hF⟩ := gv_out hF
      refine V_tald (f := v_tf v_T0) dX4_keepsRules_15 ha1 hz ?_
      obtain ⟨x2, qx2, hF⟩ := bnd_g hF
      refine B_istore_n qx2 dX4_keepsRules_16 (by decide) ?_
      refine V_iload_n dX4_keepsRules_17 rfl ?_
      refine V_aload_n dX4_keepsRules_18 rfl ?_
      refine X_gI G dX4_keepsRules_19 fX4_33 ht.1 rfl ?_
      refine V_icmp_lt (tgt := 33) dX4_keepsRules_22 (by decide) (fun c => ?_) (fun c => ?_)
      · replace hF := (if_pos c).symm.trans hF
        refine V_iload_n dX4_keepsRules_33 rfl ?_
        refine V_aload_n dX4_keepsRules_34 rfl ?_
        refine X_gI G dX4_keepsRules_35 fX4_33 ht.1 rfl ?_
        refine V_icmp_ge (tgt := 56) dX4_keepsRules_38 (by decide) (fun c => ?_) (fun c => ?_)
        · replace hF := (if_pos c).symm.trans hF
          refine V_iconst (v := 0) dX4_keepsRules_56 (by decide) ?_
          cases hF
          exact V_ireturn dX4_keepsRules_57 rfl (by decide) ⟨rfl, rfl⟩
        · replace hF := (if_neg c).symm.trans hF
          refine V_aload_n dX4_keepsRules_41 rfl ?_
          refine X_gC G dX4_keepsRules_42 fX4_27 ht.1 rfl ?_
          refine V_iload_n dX4_keepsRules_45 rfl ?_
          obtain ⟨hz, hF⟩ := gv_out hF
          refine X_iald dX4_keepsRules_46 ht.2.2.2.2.2.2.1 hz ?_
          refine V_aload_n dX4_keepsRules_47 rfl ?_
          refine X_gC G dX4_keepsRules_48 fX4_27 ht.1 rfl ?_
          refine V_iload_n dX4_keepsRules_51 rfl ?_
          obtain ⟨hz, hF⟩ := gv_out hF
          refine X_iald dX4_keepsRules_52 ht.2.2.2.2.2.2.1 hz ?_
          refine V_icmp_eq (tgt := 58) dX4_keepsRules_53 (by decide) (fun c => ?_) (fun c => ?_)
          · replace hF := (if_pos c).symm.trans hF
            obtain ⟨x3, qx3, hF⟩ := bnd_g hF
            refine B_iinc (v := 1) qx3 dX4_keepsRules_58 rfl (by decide) (by decide) ?_
            refine V_goto (tgt := 2) dX4_keepsRules_61 (by decide) ?_
            exact V_lv' (ih _ hF) (v_all_c rfl (v_all_c rfl (v_all_c rfl v_all_n)))
          · replace hF := (if_neg c).symm.trans hF
            refine V_iconst (v := 0) dX4_keepsRules_56 (by decide) ?_
            cases hF
            exact V_ireturn dX4_keepsRules_57 rfl (by decide) ⟨rfl, rfl⟩
      · replace hF := (if_neg c).symm.trans hF
        refine V_iload_n dX4_keepsRules_25 rfl ?_
        refine V_iload_n dX4_keepsRules_26 rfl ?_
        refine V_icmp_eq (tgt := 58) dX4_keepsRules_27 (by decide) (fun c => ?_) (fun c => ?_)
        · replace hF := (if_pos c).symm.trans hF
          obtain ⟨x4, qx4, hF⟩ := bnd_g hF
          refine B_iinc (v := 1) qx4 dX4_keepsRules_58 rfl (by decide) (by decide) ?_
          refine V_goto (tgt := 2) dX4_keepsRules_61 (by decide) ?_
          exact V_lv' (ih _ hF) (v_all_c rfl (v_all_c rfl (v_all_c rfl v_all_n)))
        · replace hF := (if_neg c).symm.trans hF
          refine V_goto (tgt := 56) dX4_keepsRules_30 (by decide) ?_
          refine V_iconst (v := 0) dX4_keepsRules_56 (by decide) ?_
          cases hF
          exact V_ireturn dX4_keepsRules_57 rfl (by decide) ⟨rfl, rfl⟩
set_option maxRecDepth 100000 in
set_option maxHeartbeats 4000000 in
theorem s_X4_keepsRules {l : Launch} {s0 : State} {D : va_G} {a0 : Array Value} {sh : List Sh} {f : Nat} {S : St} {t : Nat} {p1 : Int32} (ht : isX4 sh t) {r : Int32} (G : GC l s0 D a0) (hF : F_X4_keepsRules sh f S t p1 = some r) {d : Nat} (hd : 1 ≤ d) : Sp l s0 D d 0 0 mX4_keepsRules (fun v h => v = some (.int r) ∧ h = wd s0.heap.size sh S) v_noX [.ref (s0.heap.size + t), .int p1] (wd s0.heap.size sh S) := by
  obtain ⟨d, rfl⟩ : ∃ e, d = e + 1 := ⟨d - 1, by omega⟩
  refine Sp.of (by decide +kernel) rfl (Nat.le_of_ble_eq_true rfl) ?_
  unfold F_X4_keepsRules at hF
  refine V_iconst (v := 0) dX4_keepsRules_0 (by decide) ?_
  refine V_istore_n dX4_keepsRules_1 (by decide) ?_
  exact V_lv' (w_X4_keepsRules_L2 ht G hd f _ hF) (v_all_c rfl (v_all_c rfl (v_all_c rfl v_all_n)))
set_option maxRecDepth 100000 in
set_option maxHeartbeats 4000000 in
theorem s_X4_swapped {l : Launch} {s0 : State} {D : va_G} {a0 : Array Value} {sh : List Sh} {f : Nat} {S : St} {t : Nat} {p1 : Int32} {p2 : Int32} (ht : isX4 sh t) {r : Int32} (G : GC l s0 D a0) (hF : F_X4_swapped sh f S t p1 p2 = some r) {d : Nat} (hd : 1 ≤ d) : Sp l s0 D d 0 0 mX4_swapped (fun v h => v = some (.int r) ∧ h = wd s0.heap.size sh S) v_noX [.ref (s0.heap.size + t), .int p1, .int p2] (wd s0.heap.size sh S) := by
  obtain ⟨d, rfl⟩ : ∃ e, d = e + 1 := ⟨d - 1, by omega⟩
  refine Sp.of (by decide +kernel) rfl (Nat.le_of_ble_eq_true rfl) ?_
  unfold F_X4_swapped at hF
  refine V_aload_n dX4_swapped_0 rfl ?_
  refine X_gC G dX4_swapped_1 fX4_15 ht.1 rfl ?_
  refine V_iload_n dX4_swapped_4 rfl ?_
  obtain ⟨hz, hF⟩ := gv_out hF
  refine X_iald dX4_swapped_5 ht.2.2.1 hz ?_
  obtain ⟨x1, qx1, hF⟩ := bnd_g hF
  refine B_istore_n qx1 dX4_swapped_6 (by decide) ?_
  refine V_iload_n dX4_swapped_7 rfl ?_
  refine V_if_ge (tgt := 13) dX4_swapped_8 (by decide) (fun c => ?_) (fun c => ?_)
  · replace hF := (if_pos c).symm.trans hF
    refine V_aload_n dX4_swapped_13 rfl ?_
    refine X_gC G dX4_swapped_14 fX4_30 ht.1 rfl ?_
    refine V_gtab G dX4_swapped_17 (v_tb0) zX4_108 (fun a2 ha2 => ?_)
    refine V_iload_n dX4_swapped_20 rfl ?_
    refine V_iconst (v := 3) dX4_swapped_21 (by decide) ?_
    refine V_imul dX4_swapped_22 ?_
    refine V_iload_n dX4_swapped_23 rfl ?_
    refine V_iadd dX4_swapped_24 ?_
    obtain ⟨hz, hF⟩ := gv_out hF
    refine V_tald (f := v_tf v_T0) dX4_swapped_25 ha2 hz ?_
    obtain ⟨hz, hF⟩ := gv_out hF
    refine X_iald dX4_swapped_26 ht.2.2.2.2.2.2.2 hz ?_
    refine V_aload_n dX4_swapped_27 rfl ?_
    refine X_gC G dX4_swapped_28 fX4_18 ht.1 rfl ?_
    refine V_iload_n dX4_swapped_31 rfl ?_
    obtain ⟨hz, hF⟩ := gv_out hF
    refine X_iald dX4_swapped_32 ht.2.2.2.1 hz ?_
    refine V_iadd dX4_swapped_33 ?_
    refine V_aload_n dX4_swapped_34 rfl ?_
    refine X_gC G dX4_swapped_35 fX4_30 ht.1 rfl ?_
    refine V_iload_n dX4_swapped_38 rfl ?_
    obtain ⟨hz, hF⟩ := gv_out hF
    refine X_iald dX4_swapped_39 ht.2.2.2.2.2.2.2 hz ?_
    refine V_isub dX4_swapped_40 ?_
    cases hF
    exact V_ireturn dX4_swapped_41 rfl rfl ⟨rfl, rfl⟩
  · replace hF := (if_neg c).symm.trans hF
    refine V_iload_n dX4_swapped_11 rfl ?_
    cases hF
    exact V_ireturn dX4_swapped_12 rfl rfl ⟨rfl, rfl⟩
set_option maxRecDepth 100000 in
set_option maxHeartbeats 4000000 in
theorem w_X4_isPairing_L5 {l : Launch} {s0 : State} {D : va_G} {a0 : Array Value} {sh : List Sh} {f : Nat} {S : St} {t : Nat} {p1 : Int64} (ht : isX4 sh t) {r : Int32} {d : Nat} (G : GC l s0 D a0) (hd : 3 ≤ d + 1) : ∀ (n : Nat) (l3 : Int32) (l4 : Int32), F_X4_isPairing_L5 sh f S t p1 n l3 l4 = some r → V l s0 D (d + 1) 0 0 mX4_isPairing (fun v h => v = some (.int r) ∧ h = wd s0.heap.size sh S) v_noX 5 [(0, .ref (s0.heap.size + t)), (1, .long p1), (3, .int l3), (4, .int l4)] [] (wd s0.heap.size sh S) := by
  intro n
  induction n with
  | zero => intro l3 l4 hF; cases hF
  | succ n ih =>
    intro l3 l4 hF
    unfold F_X4_isPairing_L5 at hF
    refine V_iload dX4_isPairing_5 rfl ?_
    refine V_aload_n dX4_isPairing_7 rfl ?_
    refine X_gI G dX4_isPairing_8 fX4_45 ht.1 rfl ?_
    refine V_icmp_ge (tgt := 76) dX4_isPairing_11 (by decide) (fun c => ?_) (fun c => ?_)
    · replace hF := (if_pos c).symm.trans hF
      refine V_aload_n dX4_isPairing_76 rfl ?_
      refine V_iload_n dX4_isPairing_77 rfl ?_
      obtain ⟨y1, hc, hF⟩ := bd hF
      refine V_callV G dX4_isPairing_78 kX4_119 (wd_at ht.1) ⟨by decide, rfl⟩ (s_X4_hangs ht G hc (by omega)) rfl (Nat.le_of_ble_eq_true rfl) (fun _ _ _ q => q.elim) ?_
      rintro _ _ ⟨rfl, rfl⟩
      obtain ⟨hz, hF⟩ := gv_out hF
      cases hF
      exact V_ireturn dX4_isPairing_81 rfl (nb_n hz) ⟨rfl, rfl⟩
    · replace hF := (if_neg c).symm.trans hF
      refine V_lload_n dX4_isPairing_14 rfl ?_
      refine V_iload dX4_isPairing_15 rfl ?_
      obtain ⟨y2, hc, hF⟩ := bd hF
      refine V_callS dX4_isPairing_17 kX4_111 (s_X4_partnerIn G hc (by omega)) rfl (Nat.le_of_ble_eq_true rfl) (fun _ _ _ q => q.elim) ?_
      rintro _ _ ⟨rfl, rfl⟩
      refine V_istore dX4_isPairing_20 (by decide) ?_
      refine V_iload dX4_isPairing_22 rfl ?_
      refine V_aload_n dX4_isPairing_24 rfl ?_
      refine X_gI G dX4_isPairing_25 fX4_45 ht.1 rfl ?_
      refine V_icmp_ge (tgt := 57) dX4_isPairing_28 (by decide) (fun c => ?_) (fun c => ?_)
      · replace hF := (if_pos c).symm.trans hF
        refine V_iconst (v := 0) dX4_isPairing_57 (by decide) ?_
        cases hF
        exact V_ireturn dX4_isPairing_58 rfl (by decide) ⟨rfl, rfl⟩
      · replace hF := (if_neg c).symm.trans hF
        refine V_aload_n dX4_isPairing_31 rfl ?_
        refine X_gC G dX4_isPairing_32 fX4_24 ht.1 rfl ?_
        refine V_iload dX4_isPairing_35 rfl ?_
        obtain ⟨hz, hF⟩ := gv_out hF
        refine X_iald dX4_isPairing_37 ht.2.2.2.2.2.1 hz ?_
        refine V_iload dX4_isPairing_38 rfl ?_
        refine V_ishr dX4_isPairing_40 ?_
        refine V_iconst (v := 1) dX4_isPairing_41 (by decide) ?_
        refine V_iand dX4_isPairing_42 ?_
        refine V_if_eq (tgt := 57) dX4_isPairing_43 (by decide) (fun c => ?_) (fun c => ?_)
        · replace hF := (if_pos c).symm.trans hF
          refine V_iconst (v := 0) dX4_isPairing_57 (by decide) ?_
          cases hF
          exact V_ireturn dX4_isPairing_58 rfl (by decide) ⟨rfl, rfl⟩
        · replace hF := (if_neg c).symm.trans hF
          refine V_lload_n dX4_isPairing_46 rfl ?_
          refine V_iload dX4_isPairing_47 rfl ?_
          obtain ⟨y3, hc, hF⟩ := bd hF
          refine V_callS dX4_isPairing_49 kX4_111 (s_X4_partnerIn G hc (by omega)) rfl (Nat.le_of_ble_eq_true rfl) (fun _ _ _ q => q.elim) ?_
          rintro _ _ ⟨rfl, rfl⟩
          refine V_iload dX4_isPairing_52 rfl ?_
          refine V_icmp_eq (tgt := 59) dX4_isPairing_54 (by decide) (fun c => ?_) (fun c => ?_)
          · replace hF := (if_pos c).symm.trans hF
            refine V_iload_n dX4_isPairing_59 rfl ?_
            refine V_aload_n dX4_isPairing_60 rfl ?_
            refine V_iload dX4_isPairing_61 rfl ?_
            refine V_iload dX4_isPairing_63 rfl ?_
            obtain ⟨y4, hc, hF⟩ := bd hF
            refine V_callV G dX4_isPairing_65 kX4_115 (wd_at ht.1) ⟨by decide, rfl⟩ (s_X4_link ht G hc (by omega)) rfl (Nat.le_of_ble_eq_true rfl) (fun _ _ _ q => q.elim) ?_
            rintro _ _ ⟨rfl, rfl⟩
            refine V_ior dX4_isPairing_68 ?_
            obtain ⟨x5, qx5, hF⟩ := bnd_g hF
            refine B_istore_n qx5 dX4_isPairing_69 (by decide) ?_
            obtain ⟨x6, qx6, hF⟩ := bnd_g hF
            refine B_iinc (v := 1) qx6 dX4_isPairing_70 rfl (by decide) (by decide) ?_
            refine V_goto (tgt := 5) dX4_isPairing_73 (by decide) ?_
            exact V_lv' (ih _ _ hF) (v_all_c rfl (v_all_c rfl (v_all_c rfl (v_all_c rfl v_all_n))))
          · replace hF := (if_neg c).symm.trans hF
            refine V_iconst (v := 0) dX4_isPairing_57 (by decide) ?_
            cases hF
            exact V_ireturn dX4_isPairing_58 rfl (by decide) ⟨rfl, rfl⟩
set_option maxRecDepth 100000 in
set_option maxHeartbeats 4000000 in
theorem s_X4_isPairing {l : Launch} {s0 : State} {D : va_G} {a0 : Array Value} {sh : List Sh} {f : Nat} {S : St} {t : Nat} {p1 : Int64} (ht : isX4 sh t) {r : Int32} (G : GC l s0 D a0) (hF : F_X4_isPairing sh f S t p1 = some r) {d : Nat} (hd : 3 ≤ d) : Sp l s0 D d 0 0 mX4_isPairing (fun v h => v = some (.int r) ∧ h = wd s0.heap.size sh S) v_noX [.ref (s0.heap.size + t), .long p1] (wd s0.heap.size sh S) := by
  obtain ⟨d, rfl⟩ : ∃ e, d = e + 1 := ⟨d - 1, by omega⟩
  refine Sp.of (by decide +kernel) rfl (Nat.le_of_ble_eq_true rfl) ?_
  unfold F_X4_isPairing at hF
  refine V_iconst (v := 0) dX4_isPairing_0 (by decide) ?_
  refine V_istore_n dX4_isPairing_1 (by decide) ?_
  refine V_iconst (v := 0) dX4_isPairing_2 (by decide) ?_
  refine V_istore dX4_isPairing_3 (by decide) ?_
  exact V_lv' (w_X4_isPairing_L5 ht G hd f _ _ hF) (v_all_c rfl (v_all_c rfl (v_all_c rfl (v_all_c rfl v_all_n))))

