set_option maxRecDepth 100000 in
set_option maxHeartbeats 4000000 in
theorem s_X12_worth {l : Launch} {s0 : State} {D : va_G} {a0 : Array Value} {sh : List Sh} {f : Nat} {S : St} {t : Nat} {p1 : Int32} (ht : isX12 sh t) {r : Int64 × St} (G : GC l s0 D a0) (hF : F_X12_worth sh f S t p1 = some r) {d : Nat} (hd : 1 ≤ d) : Sp l s0 D d 0 0 mX12_worth (fun v h => v = some (.long r.1) ∧ h = wd s0.heap.size sh r.2) v_noX [.ref (s0.heap.size + t), .int p1] (wd s0.heap.size sh S) := by
  obtain ⟨d, rfl⟩ : ∃ e, d = e + 1 := ⟨d - 1, by omega⟩
  refine Sp.of (by decide +kernel) rfl (Nat.le_of_ble_eq_true rfl) ?_
  unfold F_X12_worth at hF
  refine V_aload_n dX12_worth_0 rfl ?_
  refine V_iconst (v := 0) dX12_worth_1 (by decide) ?_
  refine X_pI G dX12_worth_2 gX12_147 ht.1 rfl rfl rfl ?_
  obtain ⟨S1, qS1, hF⟩ := bnd_g hF
  refine V_eqS qS1 ?_
  refine V_iload_n dX12_worth_5 rfl ?_
  refine V_if_eq (tgt := 16) dX12_worth_6 (by decide) (fun c => ?_) (fun c => ?_)
  · replace hF := (if_pos c).symm.trans hF
    refine V_aload_n dX12_worth_16 rfl ?_
    refine X_gJ G dX12_worth_17 fX12_131 ht.1 rfl ?_
    cases hF
    exact V_lreturn dX12_worth_20 rfl ⟨rfl, rfl⟩
  · replace hF := (if_neg c).symm.trans hF
    refine V_aload_n dX12_worth_9 rfl ?_
    refine X_gJ G dX12_worth_10 fX12_135 ht.1 rfl ?_
    refine V_goto (tgt := 20) dX12_worth_13 (by decide) ?_
    cases hF
    exact V_lreturn dX12_worth_20 rfl ⟨rfl, rfl⟩
set_option maxRecDepth 100000 in
set_option maxHeartbeats 4000000 in
theorem s_X12_rest {l : Launch} {s0 : State} {D : va_G} {a0 : Array Value} {sh : List Sh} {f : Nat} {S : St} {t : Nat} {p1 : Int32} (ht : isX12 sh t) {r : Int32 × St} (G : GC l s0 D a0) (hF : F_X12_rest sh f S t p1 = some r) {d : Nat} (hd : 2 ≤ d) : Sp l s0 D d 0 0 mX12_rest (fun v h => v = some (.int r.1) ∧ h = wd s0.heap.size sh r.2) v_noX [.ref (s0.heap.size + t), .int p1] (wd s0.heap.size sh S) := by
  obtain ⟨d, rfl⟩ : ∃ e, d = e + 1 := ⟨d - 1, by omega⟩
  refine Sp.of (by decide +kernel) rfl (Nat.le_of_ble_eq_true rfl) ?_
  unfold F_X12_rest at hF
  refine V_aload_n dX12_rest_0 rfl ?_
  refine V_iconst (v := 0) dX12_rest_1 (by decide) ?_
  refine X_pI G dX12_rest_2 gX12_147 ht.1 rfl rfl rfl ?_
  obtain ⟨S1, qS1, hF⟩ := bnd_g hF
  refine V_eqS qS1 ?_
  refine V_iload_n dX12_rest_5 rfl ?_
  refine V_iconst (v := 0) dX12_rest_6 (by decide) ?_
  refine V_iconst (v := 3) dX12_rest_7 (by decide) ?_
  obtain ⟨y2, hc, hF⟩ := bd hF
  refine V_callS dX12_rest_8 kX12_242 (s_X12_in G hc (by omega)) rfl (Nat.le_of_ble_eq_true rfl) (fun _ _ _ q => q.elim) ?_
  rintro _ _ ⟨rfl, rfl⟩
  refine V_if_eq (tgt := 23) dX12_rest_11 (by decide) (fun c => ?_) (fun c => ?_)
  · replace hF := (if_pos c).symm.trans hF
    refine V_iconst (v := -1) dX12_rest_23 (by decide) ?_
    cases hF
    exact V_ireturn dX12_rest_24 rfl rfl ⟨rfl, rfl⟩
  · replace hF := (if_neg c).symm.trans hF
    refine V_aload_n dX12_rest_14 rfl ?_
    refine X_gC G dX12_rest_15 fX12_141 ht.1 rfl ?_
    refine V_iload_n dX12_rest_18 rfl ?_
    obtain ⟨hz, hF⟩ := gv_out hF
    refine X_iald dX12_rest_19 ht.2.2.2.2.2.2.2.2.2.2.2.2.2.2.2.2.2.2.2.2.2.2.2.2.2.2.2.2.2.2.2.2.2.1 hz ?_
    refine V_goto (tgt := 24) dX12_rest_20 (by decide) ?_
    cases hF
    exact V_ireturn dX12_rest_24 rfl rfl ⟨rfl, rfl⟩
set_option maxRecDepth 100000 in
set_option maxHeartbeats 4000000 in
theorem s_X12_pole {l : Launch} {s0 : State} {D : va_G} {a0 : Array Value} {sh : List Sh} {f : Nat} {S : St} {t : Nat} (ht : isX12 sh t) {r : Int32 × St} (G : GC l s0 D a0) (hF : F_X12_pole sh f S t = some r) {d : Nat} (hd : 1 ≤ d) : Sp l s0 D d 0 0 mX12_pole (fun v h => v = some (.int r.1) ∧ h = wd s0.heap.size sh r.2) v_noX [.ref (s0.heap.size + t)] (wd s0.heap.size sh S) := by
  obtain ⟨d, rfl⟩ : ∃ e, d = e + 1 := ⟨d - 1, by omega⟩
  refine Sp.of (by decide +kernel) rfl (Nat.le_of_ble_eq_true rfl) ?_
  unfold F_X12_pole at hF
  refine V_aload_n dX12_pole_0 rfl ?_
  refine V_iconst (v := 0) dX12_pole_1 (by decide) ?_
  refine X_pI G dX12_pole_2 gX12_147 ht.1 rfl rfl rfl ?_
  obtain ⟨S1, qS1, hF⟩ := bnd_g hF
  refine V_eqS qS1 ?_
  refine V_aload_n dX12_pole_5 rfl ?_
  refine X_gI G dX12_pole_6 fX12_13 ht.1 rfl ?_
  cases hF
  exact V_ireturn dX12_pole_9 rfl rfl ⟨rfl, rfl⟩
set_option maxRecDepth 100000 in
set_option maxHeartbeats 4000000 in
theorem w_X12_count_L126 {l : Launch} {s0 : State} {D : va_G} {a0 : Array Value} {sh : List Sh} {f : Nat} {t : Nat} {p1 : Int32} (ht : isX12 sh t) {r : Int32 × St} {d : Nat} (G : GC l s0 D a0) (hd : 5 ≤ d + 1) : ∀ (n : Nat) (S : St) (l2 : Int32) (l3 : Int32), F_X12_count_L126 sh f t p1 n S l2 l3 = some r → V l s0 D (d + 1) 0 0 mX12_count (fun v h => v = some (.int r.1) ∧ h = wd s0.heap.size sh r.2) v_noX 126 [(0, .ref (s0.heap.size + t)), (1, .int p1), (2, .int l2), (3, .int l3)] [] (wd s0.heap.size sh S) := by
  intro n
  induction n with
  | zero => intro S l2 l3 hF; cases hF
  | succ n ih =>
    intro S l2 l3 hF
    unfold F_X12_count_L126 at hF
    refine V_iload_n dX12_count_126 rfl ?_
    refine V_aload_n dX12_count_127 rfl ?_
    refine X_gC G dX12_count_128 fX12_47 ht.1 rfl ?_
    refine X_gI G dX12_count_131 fX12_404 ht.2.2.2.2.2.2.1.1 rfl ?_
    refine V_icmp_ge (tgt := 191) dX12_count_134 (by decide) (fun c => ?_) (fun c => ?_)
    · replace hF := (if_pos c).symm.trans hF
      refine V_iload_n dX12_count_191 rfl ?_
      cases hF
      exact V_ireturn dX12_count_192 rfl rfl ⟨rfl, rfl⟩
    · replace hF := (if_neg c).symm.trans hF
      refine V_aload_n dX12_count_137 rfl ?_
      refine V_aload_n dX12_count_138 rfl ?_
      refine X_gC G dX12_count_139 fX12_47 ht.1 rfl ?_
      refine V_iload_n dX12_count_142 rfl ?_
      obtain ⟨y1, hc, hF⟩ := bd hF
      refine V_callV G dX12_count_143 kX12_454 (wd_at ht.1) ⟨by decide, rfl⟩ (s_X12_shows ht ht.2.2.2.2.2.2.1 G hc (by omega)) rfl (Nat.le_of_ble_eq_true rfl) (fun _ _ _ q => q.elim) ?_
      rintro _ _ ⟨rfl, rfl⟩
      refine V_iload_n dX12_count_146 rfl ?_
      refine V_iload_n dX12_count_147 rfl ?_
      refine V_iconst (v := 5) dX12_count_148 (by decide) ?_
      refine V_icmp_ne (tgt := 171) dX12_count_149 (by decide) (fun c => ?_) (fun c => ?_)
      · replace hF := (if_neg c).symm.trans hF
        refine V_aload_n dX12_count_171 rfl ?_
        obtain ⟨y2, hc, hF⟩ := bd hF
        refine V_callV G dX12_count_172 kX12_467 (wd_at ht.1) ⟨by decide, rfl⟩ (s_X12_cuts ht G hc (by omega)) rfl (Nat.le_of_ble_eq_true rfl) (fun _ _ _ q => q.elim) ?_
        rintro _ _ ⟨rfl, rfl⟩
        refine V_if_ne (tgt := 182) dX12_count_175 (by decide) (fun c => ?_) (fun c => ?_)
        · replace hF := (if_neg c).symm.trans hF
          refine V_iconst (v := 0) dX12_count_182 (by decide) ?_
          refine V_iadd dX12_count_183 ?_
          obtain ⟨x3, qx3, hF⟩ := bnd_g hF
          refine B_istore_n qx3 dX12_count_184 (by decide) ?_
          obtain ⟨x4, qx4, hF⟩ := bnd_g hF
          refine B_iinc (v := 1) qx4 dX12_count_185 rfl (by decide) (by decide) ?_
          refine V_goto (tgt := 126) dX12_count_188 (by decide) ?_
          exact V_lv' (ih _ _ _ hF) (v_all_c rfl (v_all_c rfl (v_all_c rfl (v_all_c rfl v_all_n))))
        · replace hF := (if_pos c).symm.trans hF
          refine V_iconst (v := 1) dX12_count_178 (by decide) ?_
          refine V_goto (tgt := 183) dX12_count_179 (by decide) ?_
          refine V_iadd dX12_count_183 ?_
          obtain ⟨x5, qx5, hF⟩ := bnd_g hF
          refine B_istore_n qx5 dX12_count_184 (by decide) ?_
          obtain ⟨x6, qx6, hF⟩ := bnd_g hF
          refine B_iinc (v := 1) qx6 dX12_count_185 rfl (by decide) (by decide) ?_
          refine V_goto (tgt := 126) dX12_count_188 (by decide) ?_
          exact V_lv' (ih _ _ _ hF) (v_all_c rfl (v_all_c rfl (v_all_c rfl (v_all_c rfl v_all_n))))
      · replace hF := (if_pos c).symm.trans hF
        refine V_aload_n dX12_count_152 rfl ?_
        obtain ⟨y7, hc, hF⟩ := bd hF
        refine V_callV G dX12_count_153 kX12_464 (wd_at ht.1) ⟨by decide, rfl⟩ (s_X12_inners ht G hc (by omega)) rfl (Nat.le_of_ble_eq_true rfl) (fun _ _ _ q => q.elim) ?_
        rintro _ _ ⟨rfl, rfl⟩
        refine V_aload_n dX12_count_156 rfl ?_
        refine X_gC G dX12_count_157 fX12_47 ht.1 rfl ?_
        refine X_gI G dX12_count_160 fX12_339 ht.2.2.2.2.2.2.1.1 rfl ?_
        refine V_iconst (v := 1) dX12_count_163 (by decide) ?_
        refine V_isub dX12_count_164 ?_
        refine V_icmp_ne (tgt := 182) dX12_count_165 (by decide) (fun c => ?_) (fun c => ?_)
        · replace hF := (if_neg c).symm.trans hF
          refine V_iconst (v := 0) dX12_count_182 (by decide) ?_
          refine V_iadd dX12_count_183 ?_
          obtain ⟨x8, qx8, hF⟩ := bnd_g hF
          refine B_istore_n qx8 dX12_count_184 (by decide) ?_
          obtain ⟨x9, qx9, hF⟩ := bnd_g hF
          refine B_iinc (v := 1) qx9 dX12_count_185 rfl (by decide) (by decide) ?_
          refine V_goto (tgt := 126) dX12_count_188 (by decide) ?_
          exact V_lv' (ih _ _ _ hF) (v_all_c rfl (v_all_c rfl (v_all_c rfl (v_all_c rfl v_all_n))))
        · replace hF := (if_pos c).symm.trans hF
          refine V_goto (tgt := 178) dX12_count_168 (by decide) ?_
          refine V_iconst (v := 1) dX12_count_178 (by decide) ?_
          refine V_goto (tgt := 183) dX12_count_179 (by decide) ?_
          refine V_iadd dX12_count_183 ?_
          obtain ⟨x10, qx10, hF⟩ := bnd_g hF
          refine B_istore_n qx10 dX12_count_184 (by decide) ?_
          obtain ⟨x11, qx11, hF⟩ := bnd_g hF
          refine B_iinc (v := 1) qx11 dX12_count_185 rfl (by decide) (by decide) ?_
          refine V_goto (tgt := 126) dX12_count_188 (by decide) ?_
          exact V_lv' (ih _ _ _ hF) (v_all_c rfl (v_all_c rfl (v_all_c rfl (v_all_c rfl v_all_n))))
set_option maxRecDepth 100000 in
set_option maxHeartbeats 4000000 in
theorem s_X12_count {l : Launch} {s0 : State} {D : va_G} {a0 : Array Value} {sh : List Sh} {f : Nat} {S : St} {t : Nat} {p1 : Int32} (ht : isX12 sh t) {r : Int32 × St} (G : GC l s0 D a0) (hF : F_X12_count sh f S t p1 = some r) {d : Nat} (hd : 5 ≤ d) : Sp l s0 D d 0 0 mX12_count (fun v h => v = some (.int r.1) ∧ h = wd s0.heap.size sh r.2) v_noX [.ref (s0.heap.size + t), .int p1] (wd s0.heap.size sh S) := by
  obtain ⟨d, rfl⟩ : ∃ e, d = e + 1 := ⟨d - 1, by omega⟩
  refine Sp.of (by decide +kernel) rfl (Nat.le_of_ble_eq_true rfl) ?_
  unfold F_X12_count at hF
  refine V_aload_n dX12_count_0 rfl ?_
  refine V_iconst (v := 0) dX12_count_1 (by decide) ?_
  refine X_pI G dX12_count_2 gX12_147 ht.1 rfl rfl rfl ?_
  obtain ⟨S1, qS1, hF⟩ := bnd_g hF
  refine V_eqS qS1 ?_
  refine V_iload_n dX12_count_5 rfl ?_
  refine V_iconst (v := 0) dX12_count_6 (by decide) ?_
  refine V_bipush (v := 7) dX12_count_7 (by decide) ?_
  obtain ⟨y2, hc, hF⟩ := bd hF
  refine V_callS dX12_count_9 kX12_242 (s_X12_in G hc (by omega)) rfl (Nat.le_of_ble_eq_true rfl) (fun _ _ _ q => q.elim) ?_
  rintro _ _ ⟨rfl, rfl⟩
  refine V_if_ne (tgt := 17) dX12_count_12 (by decide) (fun c => ?_) (fun c => ?_)
  · replace hF := (if_neg c).symm.trans hF
    refine V_iload_n dX12_count_17 rfl ?_
    refine V_bipush (v := 7) dX12_count_18 (by decide) ?_
    refine V_icmp_ne (tgt := 28) dX12_count_20 (by decide) (fun c => ?_) (fun c => ?_)
    · replace hF := (if_neg c).symm.trans hF
      refine V_iload_n dX12_count_28 rfl ?_
      refine V_iconst (v := 2) dX12_count_29 (by decide) ?_
      refine V_icmp_ne (tgt := 38) dX12_count_30 (by decide) (fun c => ?_) (fun c => ?_)
      · replace hF := (if_neg c).symm.trans hF
        refine V_iload_n dX12_count_38 rfl ?_
        refine V_iconst (v := 2) dX12_count_39 (by decide) ?_
        refine V_icmp_ge (tgt := 76) dX12_count_40 (by decide) (fun c => ?_) (fun c => ?_)
        · replace hF := (if_pos c).symm.trans hF
          refine V_aload_n dX12_count_76 rfl ?_
          refine X_gI G dX12_count_77 fX12_318 ht.1 rfl ?_
          refine V_if_ne (tgt := 85) dX12_count_80 (by decide) (fun c => ?_) (fun c => ?_)
          · replace hF := (if_neg c).symm.trans hF
            refine V_iload_n dX12_count_85 rfl ?_
            refine V_iconst (v := 3) dX12_count_86 (by decide) ?_
            refine V_icmp_ne (tgt := 98) dX12_count_87 (by decide) (fun c => ?_) (fun c => ?_)
            · replace hF := (if_neg c).symm.trans hF
              refine V_iload_n dX12_count_98 rfl ?_
              refine V_iconst (v := 4) dX12_count_99 (by decide) ?_
              refine V_icmp_ne (tgt := 111) dX12_count_100 (by decide) (fun c => ?_) (fun c => ?_)
              · replace hF := (if_neg c).symm.trans hF
                refine V_iconst (v := 0) dX12_count_111 (by decide) ?_
                refine V_istore_n dX12_count_112 (by decide) ?_
                refine V_aload_n dX12_count_113 rfl ?_
                refine V_aload_n dX12_count_114 rfl ?_
                refine X_gC G dX12_count_115 fX12_47 ht.1 rfl ?_
                refine X_gI G dX12_count_118 fX12_339 ht.2.2.2.2.2.2.1.1 rfl ?_
                refine X_pI G dX12_count_121 gX12_439 ht.1 rfl rfl rfl ?_
                obtain ⟨S3, qS3, hF⟩ := bnd_g hF
                refine V_eqS qS3 ?_
                refine V_iconst (v := 0) dX12_count_124 (by decide) ?_
                refine V_istore_n dX12_count_125 (by decide) ?_
                exact V_lv' (w_X12_count_L126 ht G hd f _ _ _ hF) (v_all_c rfl (v_all_c rfl (v_all_c rfl (v_all_c rfl v_all_n))))
              · replace hF := (if_pos c).symm.trans hF
                refine V_aload_n dX12_count_103 rfl ?_
                refine X_gC G dX12_count_104 fX12_47 ht.1 rfl ?_
                refine X_gI G dX12_count_107 fX12_339 ht.2.2.2.2.2.2.1.1 rfl ?_
                cases hF
                exact V_ireturn dX12_count_110 rfl rfl ⟨rfl, rfl⟩
            · replace hF := (if_pos c).symm.trans hF
              refine V_aload_n dX12_count_90 rfl ?_
              refine X_gC G dX12_count_91 fX12_47 ht.1 rfl ?_
              refine X_gI G dX12_count_94 fX12_404 ht.2.2.2.2.2.2.1.1 rfl ?_
              cases hF
              exact V_ireturn dX12_count_97 rfl rfl ⟨rfl, rfl⟩
          · replace hF := (if_pos c).symm.trans hF
            refine V_iconst (v := 0) dX12_count_83 (by decide) ?_
            cases hF
            exact V_ireturn dX12_count_84 rfl rfl ⟨rfl, rfl⟩
        · replace hF := (if_neg c).symm.trans hF
          refine V_aload_n dX12_count_43 rfl ?_
          cases hr : sR S1 t 5 with
          | none =>
            replace hF := oN_n hr hF
            refine X_gN G dX12_count_44 fX12_312 ht.1 rfl hr ?_
            refine V_ifnonnullN dX12_count_47 ?_
            refine V_iconst (v := 0) dX12_count_50 (by decide) ?_
            refine V_goto (tgt := 75) dX12_count_51 (by decide) ?_
            cases hF
            exact V_ireturn dX12_count_75 rfl rfl ⟨rfl, rfl⟩
          | some z =>
            replace hF := oN_s hr hF
            refine X_gR G dX12_count_44 fX12_312 ht.1 rfl hr ?_
            refine V_ifnonnull (tgt := 54) dX12_count_47 (by decide) ?_
            refine V_iload_n dX12_count_54 rfl ?_
            refine V_if_ne (tgt := 68) dX12_count_55 (by decide) (fun c => ?_) (fun c => ?_)
            · replace hF := (if_neg c).symm.trans hF
              refine V_aload_n dX12_count_68 rfl ?_
              obtain ⟨b5, hrb5, hF⟩ := bd hF
              obtain ⟨hb5, hF⟩ := gv_in hF
              replace hb5 := ckX9_ok hb5
              refine X_gR G dX12_count_69 fX12_312 ht.1 rfl hrb5 ?_
              refine X_gI G dX12_count_72 fX12_278 hb5.1 rfl ?_
              cases hF
              exact V_ireturn dX12_count_75 rfl rfl ⟨rfl, rfl⟩
            · replace hF := (if_pos c).symm.trans hF
              refine V_aload_n dX12_count_58 rfl ?_
              obtain ⟨b6, hrb6, hF⟩ := bd hF
              obtain ⟨hb6, hF⟩ := gv_in hF
              replace hb6 := ckX9_ok hb6
              refine X_gR G dX12_count_59 fX12_312 ht.1 rfl hrb6 ?_
              refine X_gI G dX12_count_62 fX12_272 hb6.1 rfl ?_
              refine V_goto (tgt := 75) dX12_count_65 (by decide) ?_
              cases hF
              exact V_ireturn dX12_count_75 rfl rfl ⟨rfl, rfl⟩
      · replace hF := (if_pos c).symm.trans hF
        refine V_aload_n dX12_count_33 rfl ?_
        refine X_gI G dX12_count_34 fX12_315 ht.1 rfl ?_
        cases hF
        exact V_ireturn dX12_count_37 rfl rfl ⟨rfl, rfl⟩
    · replace hF := (if_pos c).symm.trans hF
      refine V_aload_n dX12_count_23 rfl ?_
      refine X_gI G dX12_count_24 fX12_300 ht.1 rfl ?_
      cases hF
      exact V_ireturn dX12_count_27 rfl rfl ⟨rfl, rfl⟩
  · replace hF := (if_pos c).symm.trans hF
    refine V_iconst (v := -1) dX12_count_15 (by decide) ?_
    cases hF
    exact V_ireturn dX12_count_16 rfl rfl ⟨rfl, rfl⟩
set_option maxRecDepth 100000 in
set_option maxHeartbeats 4000000 in
theorem s_X12_trouble {l : Launch} {s0 : State} {D : va_G} {a0 : Array Value} {sh : List Sh} {f : Nat} {S : St} {t : Nat} (ht : isX12 sh t) {r : Int32 × St} (G : GC l s0 D a0) (hF : F_X12_trouble sh f S t = some r) {d : Nat} (hd : 1 ≤ d) : Sp l s0 D d 0 0 mX12_trouble (fun v h => v = some (.int r.1) ∧ h = wd s0.heap.size sh r.2) v_noX [.ref (s0.heap.size + t)] (wd s0.heap.size sh S) := by
  obtain ⟨d, rfl⟩ : ∃ e, d = e + 1 := ⟨d - 1, by omega⟩
  refine Sp.of (by decide +kernel) rfl (Nat.le_of_ble_eq_true rfl) ?_
  unfold F_X12_trouble at hF
  refine V_aload_n dX12_trouble_0 rfl ?_
  refine V_iconst (v := 0) dX12_trouble_1 (by decide) ?_
  refine X_pI G dX12_trouble_2 gX12_147 ht.1 rfl rfl rfl ?_
  obtain ⟨S1, qS1, hF⟩ := bnd_g hF
  refine V_eqS qS1 ?_
  refine V_aload_n dX12_trouble_5 rfl ?_
  refine X_gI G dX12_trouble_6 fX12_150 ht.1 rfl ?_
  cases hF
  exact V_ireturn dX12_trouble_9 rfl rfl ⟨rfl, rfl⟩
set_option maxRecDepth 100000 in
set_option maxHeartbeats 4000000 in
theorem w_X2_clear_L23 {l : Launch} {s0 : State} {D : va_G} {a0 : Array Value} {sh : List Sh} {f : Nat} {t : Nat} (ht : isX2 sh t) {r : St} {d : Nat} (G : GC l s0 D a0) (hd : 1 ≤ d + 1) : ∀ (n : Nat) (S : St) (l1 : Int32), F_X2_clear_L23 sh f t n S l1 = some r → V l s0 D (d + 1) 0 0 mX2_clear (fun v h => v = none ∧ h = wd s0.heap.size sh r) v_noX 23 [(0, .ref (s0.heap.size + t)), (1, .int l1)] [] (wd s0.heap.size sh S) := by
  intro n
  induction n with
  | zero => intro S l1 hF; cases hF
  | succ n ih =>
    intro S l1 hF
    unfold F_X2_clear_L23 at hF
    refine V_iload_n dX2_clear_23 rfl ?_
    refine V_bipush (v := 12) dX2_clear_24 (by decide) ?_
    refine V_icmp_ge (tgt := 42) dX2_clear_26 (by decide) (fun c => ?_) (fun c => ?_)
    · replace hF := (if_pos c).symm.trans hF
      cases hF
      exact V_return dX2_clear_42 rfl ⟨rfl, rfl⟩
    · replace hF := (if_neg c).symm.trans hF
      refine V_aload_n dX2_clear_29 rfl ?_
      refine X_gC G dX2_clear_30 fX2_13 ht.1 rfl ?_
      refine V_iload_n dX2_clear_33 rfl ?_
      refine V_lconst (v := 0) dX2_clear_34 (by decide) ?_
      obtain ⟨hz, hF⟩ := gv_out hF
      refine X_last dX2_clear_35 ht.2.2.1 hz ?_
      obtain ⟨S1, qS1, hF⟩ := bnd_g hF
      refine V_eqS qS1 ?_
      obtain ⟨x2, qx2, hF⟩ := bnd_g hF
      refine B_iinc (v := 1) qx2 dX2_clear_36 rfl (by decide) (by decide) ?_
      refine V_goto (tgt := 23) dX2_clear_39 (by decide) ?_
      exact V_lv' (ih _ _ hF) (v_all_c rfl (v_all_c rfl v_all_n))
set_option maxRecDepth 100000 in
set_option maxHeartbeats 4000000 in
theorem w_X2_clear_L2 {l : Launch} {s0 : State} {D : va_G} {a0 : Array Value} {sh : List Sh} {f : Nat} {t : Nat} (ht : isX2 sh t) {r : St} {d : Nat} (G : GC l s0 D a0) (hd : 1 ≤ d + 1) : ∀ (n : Nat) (S : St) (l1 : Int32), F_X2_clear_L2 sh f t n S l1 = some r → V l s0 D (d + 1) 0 0 mX2_clear (fun v h => v = none ∧ h = wd s0.heap.size sh r) v_noX 2 [(0, .ref (s0.heap.size + t)), (1, .int l1)] [] (wd s0.heap.size sh S) := by
  intro n
  induction n with
  | zero => intro S l1 hF; cases hF
  | succ n ih =>
    intro S l1 hF
    unfold F_X2_clear_L2 at hF
    refine V_iload_n dX2_clear_2 rfl ?_
    refine V_bipush (v := 25) dX2_clear_3 (by decide) ?_
    refine V_icmp_ge (tgt := 21) dX2_clear_5 (by decide) (fun c => ?_) (fun c => ?_)
    · replace hF := (if_pos c).symm.trans hF
      refine V_iconst (v := 0) dX2_clear_21 (by decide) ?_
      refine V_istore_n dX2_clear_22 (by decide) ?_
      exact V_lv' (w_X2_clear_L23 ht G hd f _ _ hF) (v_all_c rfl (v_all_c rfl v_all_n))
    · replace hF := (if_neg c).symm.trans hF
      refine V_aload_n dX2_clear_8 rfl ?_
      refine X_gC G dX2_clear_9 fX2_9 ht.1 rfl ?_
      refine V_iload_n dX2_clear_12 rfl ?_
      refine V_iconst (v := 0) dX2_clear_13 (by decide) ?_
      obtain ⟨hz, hF⟩ := gv_out hF
      refine X_iast dX2_clear_14 ht.2.1 hz ?_
      obtain ⟨S1, qS1, hF⟩ := bnd_g hF
      refine V_eqS qS1 ?_
      obtain ⟨x2, qx2, hF⟩ := bnd_g hF
      refine B_iinc (v := 1) qx2 dX2_clear_15 rfl (by decide) (by decide) ?_
      refine V_goto (tgt := 2) dX2_clear_18 (by decide) ?_
      exact V_lv' (ih _ _ hF) (v_all_c rfl (v_all_c rfl v_all_n))
set_option maxRecDepth 100000 in
set_option maxHeartbeats 4000000 in
theorem s_X2_clear {l : Launch} {s0 : State} {D : va_G} {a0 : Array Value} {sh : List Sh} {f : Nat} {S : St} {t : Nat} (ht : isX2 sh t) {r : St} (G : GC l s0 D a0) (hF : F_X2_clear sh f S t = some r) {d : Nat} (hd : 1 ≤ d) : Sp l s0 D d 0 0 mX2_clear (fun v h => v = none ∧ h = wd s0.heap.size sh r) v_noX [.ref (s0.heap.size + t)] (wd s0.heap.size sh S) := by
  obtain ⟨d, rfl⟩ : ∃ e, d = e + 1 := ⟨d - 1, by omega⟩
  refine Sp.of (by decide +kernel) rfl (Nat.le_of_ble_eq_true rfl) ?_
  unfold F_X2_clear at hF
  refine V_iconst (v := 0) dX2_clear_0 (by decide) ?_
  refine V_istore_n dX2_clear_1 (by decide) ?_
  exact V_lv' (w_X2_clear_L2 ht G hd f _ _ hF) (v_all_c rfl (v_all_c rfl v_all_n))
set_option maxRecDepth 100000 in
set_option maxHeartbeats 4000000 in
theorem w_X2_exponentOf_L5 {l : Launch} {s0 : State} {D : va_G} {a0 : Array Value} {sh : List Sh} {f : Nat} {S : St} {p0 : Int32} {p1 : Int64} {r : Int32} {d : Nat} (G : GC l s0 D a0) (hd : 1 ≤ d + 1) : ∀ (n : Nat) (l3 : Int32) (l4 : Int64), F_X2_exponentOf_L5 sh f S p0 p1 n l3 l4 = some r → V l s0 D (d + 1) 0 0 mX2_exponentOf (fun v h => v = some (.int r) ∧ h = wd s0.heap.size sh S) v_noX 5 [(0, .int p0), (3, .int l3), (4, .long l4)] [] (wd s0.heap.size sh S) := by
  intro n
  induction n with
  | zero => intro l3 l4 hF; cases hF
  | succ n ih =>
    intro l3 l4 hF
    unfold F_X2_exponentOf_L5 at hF
    refine V_lload dX2_exponentOf_5 rfl ?_
    refine V_lconst (v := 0) dX2_exponentOf_7 (by decide) ?_
    refine V_lcmp dX2_exponentOf_8 ?_
    refine V_if_le (tgt := 41) dX2_exponentOf_9 (by decide) (fun c => ?_) (fun c => ?_)
    · replace hF := (if_pos c).symm.trans hF
      refine V_iload_n dX2_exponentOf_41 rfl ?_
      cases hF
      exact V_ireturn dX2_exponentOf_42 rfl rfl ⟨rfl, rfl⟩
    · replace hF := (if_neg c).symm.trans hF
      refine V_iload_n dX2_exponentOf_12 rfl ?_
      refine V_bipush (v := 64) dX2_exponentOf_13 (by decide) ?_
      refine V_icmp_ge (tgt := 41) dX2_exponentOf_15 (by decide) (fun c => ?_) (fun c => ?_)
      · replace hF := (if_pos c).symm.trans hF
        refine V_iload_n dX2_exponentOf_41 rfl ?_
        cases hF
        exact V_ireturn dX2_exponentOf_42 rfl rfl ⟨rfl, rfl⟩
      · replace hF := (if_neg c).symm.trans hF
        refine V_lload dX2_exponentOf_18 rfl ?_
        refine V_iload_n dX2_exponentOf_20 rfl ?_
        refine V_i2l dX2_exponentOf_21 ?_
        obtain ⟨hz, hF⟩ := gv_out hF
        refine V_lrem dX2_exponentOf_22 hz ?_
        refine V_lconst (v := 0) dX2_exponentOf_23 (by decide) ?_
        refine V_lcmp dX2_exponentOf_24 ?_
        refine V_if_ne (tgt := 41) dX2_exponentOf_25 (by decide) (fun c => ?_) (fun c => ?_)
        · replace hF := (if_neg c).symm.trans hF
          refine V_iload_n dX2_exponentOf_41 rfl ?_
          cases hF
          exact V_ireturn dX2_exponentOf_42 rfl rfl ⟨rfl, rfl⟩
        · replace hF := (if_pos c).symm.trans hF
          refine V_lload dX2_exponentOf_28 rfl ?_
          refine V_iload_n dX2_exponentOf_30 rfl ?_
          refine V_i2l dX2_exponentOf_31 ?_
          obtain ⟨hz, hF⟩ := gv_out hF
          refine V_ldiv dX2_exponentOf_32 hz ?_
          obtain ⟨x1, qx1, hF⟩ := bnd_g hF
          refine B_lstore qx1 dX2_exponentOf_33 (by decide) ?_
          obtain ⟨x2, qx2, hF⟩ := bnd_g hF
          refine B_iinc (v := 1) qx2 dX2_exponentOf_35 rfl (by decide) (by decide) ?_
          refine V_goto (tgt := 5) dX2_exponentOf_38 (by decide) ?_
          exact V_lv' (ih _ _ hF) (v_all_c rfl (v_all_c rfl (v_all_c rfl v_all_n)))
set_option maxRecDepth 100000 in
set_option maxHeartbeats 4000000 in
theorem s_X2_exponentOf {l : Launch} {s0 : State} {D : va_G} {a0 : Array Value} {sh : List Sh} {f : Nat} {S : St} {p0 : Int32} {p1 : Int64} {r : Int32} (G : GC l s0 D a0) (hF : F_X2_exponentOf sh f S p0 p1 = some r) {d : Nat} (hd : 1 ≤ d) : Sp l s0 D d 0 0 mX2_exponentOf (fun v h => v = some (.int r) ∧ h = wd s0.heap.size sh S) v_noX [.int p0, .long p1] (wd s0.heap.size sh S) := by
  obtain ⟨d, rfl⟩ : ∃ e, d = e + 1 := ⟨d - 1, by omega⟩
  refine Sp.of (by decide +kernel) rfl (Nat.le_of_ble_eq_true rfl) ?_
  unfold F_X2_exponentOf at hF
  refine V_iconst (v := 0) dX2_exponentOf_0 (by decide) ?_
  refine V_istore_n dX2_exponentOf_1 (by decide) ?_
  refine V_lload_n dX2_exponentOf_2 rfl ?_
  refine V_lstore dX2_exponentOf_3 (by decide) ?_
  exact V_lv' (w_X2_exponentOf_L5  G hd f _ _ hF) (v_all_c rfl (v_all_c rfl (v_all_c rfl v_all_n)))
set_option maxRecDepth 100000 in
set_option maxHeartbeats 4000000 in
theorem w_X2_widen_L2 {l : Launch} {s0 : State} {D : va_G} {a0 : Array Value} {sh : List Sh} {f : Nat} {t : Nat} {p1 : Int64} (ht : isX2 sh t) {r : St} {d : Nat} (G : GC l s0 D a0) (hd : 2 ≤ d + 1) : ∀ (n : Nat) (S : St) (l3 : Int32), F_X2_widen_L2 sh f t p1 n S l3 = some r → V l s0 D (d + 1) 0 0 mX2_widen (fun v h => v = none ∧ h = wd s0.heap.size sh r) v_noX 2 [(0, .ref (s0.heap.size + t)), (1, .long p1), (3, .int l3)] [] (wd s0.heap.size sh S) := by
  intro n
  induction n with
  | zero => intro S l3 hF; cases hF
  | succ n ih =>
    intro S l3 hF
    unfold F_X2_widen_L2 at hF
    refine V_iload_n dX2_widen_2 rfl ?_
    refine V_bipush (v := 25) dX2_widen_3 (by decide) ?_
    refine V_icmp_ge (tgt := 38) dX2_widen_5 (by decide) (fun c => ?_) (fun c => ?_)
    · replace hF := (if_pos c).symm.trans hF
      cases hF
      exact V_return dX2_widen_38 rfl ⟨rfl, rfl⟩
    · replace hF := (if_neg c).symm.trans hF
      refine V_aload_n dX2_widen_8 rfl ?_
      refine X_gC G dX2_widen_9 fX2_9 ht.1 rfl ?_
      refine V_iload_n dX2_widen_12 rfl ?_
      refine V_aload_n dX2_widen_13 rfl ?_
      refine X_gC G dX2_widen_14 fX2_9 ht.1 rfl ?_
      refine V_iload_n dX2_widen_17 rfl ?_
      obtain ⟨hz, hF⟩ := gv_out hF
      refine X_iald dX2_widen_18 ht.2.1 hz ?_
      refine V_gtab G dX2_widen_19 (v_tb1) zX2_20 (fun a1 ha1 => ?_)
      refine V_iload_n dX2_widen_22 rfl ?_
      obtain ⟨hz, hF⟩ := gv_out hF
      refine V_tald (f := v_tf v_T1) dX2_widen_23 ha1 hz ?_
      refine V_lload_n dX2_widen_24 rfl ?_
      obtain ⟨y2, hc, hF⟩ := bd hF
      refine V_callS dX2_widen_25 kX2_23 (s_X2_exponentOf G hc (by omega)) rfl (Nat.le_of_ble_eq_true rfl) (fun _ _ _ q => q.elim) ?_
      rintro _ _ ⟨rfl, rfl⟩
      obtain ⟨y3, hc, hF⟩ := bd hF
      refine V_callS dX2_widen_28 kX2_27 (s_J9_max_7cf53 G hc (by omega)) rfl (Nat.le_of_ble_eq_true rfl) (fun _ _ _ q => q.elim) ?_
      rintro _ _ ⟨rfl, rfl⟩
      obtain ⟨hz, hF⟩ := gv_out hF
      refine X_iast dX2_widen_31 ht.2.1 hz ?_
      obtain ⟨S4, qS4, hF⟩ := bnd_g hF
      refine V_eqS qS4 ?_
      obtain ⟨x5, qx5, hF⟩ := bnd_g hF
      refine B_iinc (v := 1) qx5 dX2_widen_32 rfl (by decide) (by decide) ?_
      refine V_goto (tgt := 2) dX2_widen_35 (by decide) ?_
      exact V_lv' (ih _ _ hF) (v_all_c rfl (v_all_c rfl (v_all_c rfl v_all_n)))
set_option maxRecDepth 100000 in
set_option maxHeartbeats 4000000 in
theorem s_X2_widen {l : Launch} {s0 : State} {D : va_G} {a0 : Array Value} {sh : List Sh} {f : Nat} {S : St} {t : Nat} {p1 : Int64} (ht : isX2 sh t) {r : St} (G : GC l s0 D a0) (hF : F_X2_widen sh f S t p1 = some r) {d : Nat} (hd : 2 ≤ d) : Sp l s0 D d 0 0 mX2_widen (fun v h => v = none ∧ h = wd s0.heap.size sh r) v_noX [.ref (s0.heap.size + t), .long p1] (wd s0.heap.size sh S) := by
  obtain ⟨d, rfl⟩ : ∃ e, d = e + 1 := ⟨d - 1, by omega⟩
  refine Sp.of (by decide +kernel) rfl (Nat.le_of_ble_eq_true rfl) ?_
  unfold F_X2_widen at hF
  refine V_iconst (v := 0) dX2_widen_0 (by decide) ?_
  refine V_istore_n dX2_widen_1 (by decide) ?_
  exact V_lv' (w_X2_widen_L2 ht G hd f _ _ hF) (v_all_c rfl (v_all_c rfl (v_all_c rfl v_all_n)))
set_option maxRecDepth 100000 in
set_option maxHeartbeats 4000000 in
theorem w_X2_multiplyTerm_L5 {l : Launch} {s0 : State} {D : va_G} {a0 : Array Value} {sh : List Sh} {f : Nat} {t : Nat} {p1 : Int32} (ht : isX2 sh t) {r : St} {d : Nat} (G : GC l s0 D a0) (hd : 1 ≤ d + 1) : ∀ (n : Nat) (S : St) (l2 : Int64) (l4 : Int32), F_X2_multiplyTerm_L5 sh f t p1 n S l2 l4 = some r → V l s0 D (d + 1) 0 0 mX2_multiplyTerm (fun v h => v = none ∧ h = wd s0.heap.size sh r) v_noX 5 [(0, .ref (s0.heap.size + t)), (1, .int p1), (2, .long l2), (4, .int l4)] [] (wd s0.heap.size sh S) := by
  intro n
  induction n with
  | zero => intro S l2 l4 hF; cases hF
  | succ n ih =>
    intro S l2 l4 hF
    unfold F_X2_multiplyTerm_L5 at hF
    refine V_iload dX2_multiplyTerm_5 rfl ?_
    refine V_bipush (v := 12) dX2_multiplyTerm_7 (by decide) ?_
    refine V_icmp_ge (tgt := 48) dX2_multiplyTerm_9 (by decide) (fun c => ?_) (fun c => ?_)
    · replace hF := (if_pos c).symm.trans hF
      cases hF
      exact V_return dX2_multiplyTerm_48 rfl ⟨rfl, rfl⟩
    · replace hF := (if_neg c).symm.trans hF
      refine V_lload_n dX2_multiplyTerm_12 rfl ?_
      refine V_aload_n dX2_multiplyTerm_13 rfl ?_
      refine X_gC G dX2_multiplyTerm_14 fX2_17 ht.1 rfl ?_
      refine V_iload dX2_multiplyTerm_17 rfl ?_
      obtain ⟨hz, hF⟩ := gv_out hF
      refine X_lald dX2_multiplyTerm_19 ht.2.2.2 hz ?_
      refine V_iload_n dX2_multiplyTerm_20 rfl ?_
      refine V_i2l dX2_multiplyTerm_21 ?_
      refine V_lmul dX2_multiplyTerm_22 ?_
      refine V_ladd dX2_multiplyTerm_23 ?_
      obtain ⟨x1, qx1, hF⟩ := bnd_g hF
      refine B_lstore_n qx1 dX2_multiplyTerm_24 (by decide) ?_
      refine V_aload_n dX2_multiplyTerm_25 rfl ?_
      refine X_gC G dX2_multiplyTerm_26 fX2_17 ht.1 rfl ?_
      refine V_iload dX2_multiplyTerm_29 rfl ?_
      refine V_lload_n dX2_multiplyTerm_31 rfl ?_
      refine V_ldc2 dX2_multiplyTerm_32 qX2_37 ?_
      refine V_land dX2_multiplyTerm_35 ?_
      obtain ⟨hz, hF⟩ := gv_out hF
      refine X_last dX2_multiplyTerm_36 ht.2.2.2 hz ?_
      obtain ⟨S2, qS2, hF⟩ := bnd_g hF
      refine V_eqS qS2 ?_
      refine V_lload_n dX2_multiplyTerm_37 rfl ?_
      refine V_bipush (v := 30) dX2_multiplyTerm_38 (by decide) ?_
      refine V_lshr dX2_multiplyTerm_40 ?_
      obtain ⟨x3, qx3, hF⟩ := bnd_g hF
      refine B_lstore_n qx3 dX2_multiplyTerm_41 (by decide) ?_
      obtain ⟨x4, qx4, hF⟩ := bnd_g hF
      refine B_iinc (v := 1) qx4 dX2_multiplyTerm_42 rfl (by decide) (by decide) ?_
      refine V_goto (tgt := 5) dX2_multiplyTerm_45 (by decide) ?_
      exact V_lv' (ih _ _ _ hF) (v_all_c rfl (v_all_c rfl (v_all_c rfl (v_all_c rfl v_all_n))))
set_option maxRecDepth 100000 in
set_option maxHeartbeats 4000000 in
theorem s_X2_multiplyTerm {l : Launch} {s0 : State} {D : va_G} {a0 : Array Value} {sh : List Sh} {f : Nat} {S : St} {t : Nat} {p1 : Int32} (ht : isX2 sh t) {r : St} (G : GC l s0 D a0) (hF : F_X2_multiplyTerm sh f S t p1 = some r) {d : Nat} (hd : 1 ≤ d) : Sp l s0 D d 0 0 mX2_multiplyTerm (fun v h => v = none ∧ h = wd s0.heap.size sh r) v_noX [.ref (s0.heap.size + t), .int p1] (wd s0.heap.size sh S) := by
  obtain ⟨d, rfl⟩ : ∃ e, d = e + 1 := ⟨d - 1, by omega⟩
  refine Sp.of (by decide +kernel) rfl (Nat.le_of_ble_eq_true rfl) ?_
  unfold F_X2_multiplyTerm at hF
  refine V_lconst (v := 0) dX2_multiplyTerm_0 (by decide) ?_
  refine V_lstore_n dX2_multiplyTerm_1 (by decide) ?_
  refine V_iconst (v := 0) dX2_multiplyTerm_2 (by decide) ?_
  refine V_istore dX2_multiplyTerm_3 (by decide) ?_
  exact V_lv' (w_X2_multiplyTerm_L5 ht G hd f _ _ _ hF) (v_all_c rfl (v_all_c rfl (v_all_c rfl (v_all_c rfl v_all_n))))
set_option maxRecDepth 100000 in
set_option maxHeartbeats 4000000 in
theorem w_X2_add_L71 {l : Launch} {s0 : State} {D : va_G} {a0 : Array Value} {sh : List Sh} {f : Nat} {t : Nat} {p1 : Int64} {p3 : Int64} (ht : isX2 sh t) {r : St} {d : Nat} (G : GC l s0 D a0) (hd : 2 ≤ d + 1) {k52 : St → Int32 → Option (St)} (hk52 : ∀ (S : St) (l7 : Int32), k52 S l7 = some r → V l s0 D (d + 1) 0 0 mX2_add (fun v h => v = none ∧ h = wd s0.heap.size sh r) v_noX 52 [(0, .ref (s0.heap.size + t)), (1, .long p1), (3, .long p3), (7, .int l7)] [] (wd s0.heap.size sh S)) : ∀ (n : Nat) (S : St) (l7 : Int32) (l8 : Int32), F_X2_add_L71 sh f t p1 p3 k52 n S l7 l8 = some r → V l s0 D (d + 1) 0 0 mX2_add (fun v h => v = none ∧ h = wd s0.heap.size sh r) v_noX 71 [(0, .ref (s0.heap.size + t)), (1, .long p1), (3, .long p3), (7, .int l7), (8, .int l8)] [] (wd s0.heap.size sh S) := by
  intro n
  induction n with
  | zero => intro S l7 l8 hF; cases hF
  | succ n ih =>
    intro S l7 l8 hF
    unfold F_X2_add_L71 at hF
    refine V_iload dX2_add_71 rfl ?_
    refine V_aload_n dX2_add_73 rfl ?_
    refine X_gC G dX2_add_74 fX2_9 ht.1 rfl ?_
    refine V_iload dX2_add_77 rfl ?_
    obtain ⟨hz, hF⟩ := gv_out hF
    refine X_iald dX2_add_79 ht.2.1 hz ?_
    refine V_icmp_ge (tgt := 99) dX2_add_80 (by decide) (fun c => ?_) (fun c => ?_)
    · replace hF := (if_pos c).symm.trans hF
      obtain ⟨x1, qx1, hF⟩ := bnd_g hF
      refine B_iinc (v := 1) qx1 dX2_add_99 rfl (by decide) (by decide) ?_
      refine V_goto (tgt := 52) dX2_add_102 (by decide) ?_
      exact V_lv' (hk52 _ _ hF) (v_all_c rfl (v_all_c rfl (v_all_c rfl (v_all_c rfl v_all_n))))
    · replace hF := (if_neg c).symm.trans hF
      refine V_aload_n dX2_add_83 rfl ?_
      refine V_gtab G dX2_add_84 (v_tb1) zX2_20 (fun a2 ha2 => ?_)
      refine V_iload dX2_add_87 rfl ?_
      obtain ⟨hz, hF⟩ := gv_out hF
      refine V_tald (f := v_tf v_T1) dX2_add_89 ha2 hz ?_
      obtain ⟨y3, hc, hF⟩ := bd hF
      refine V_callV G dX2_add_90 kX2_39 (wd_at ht.1) ⟨by decide, rfl⟩ (s_X2_multiplyTerm ht G hc (by omega)) rfl (Nat.le_of_ble_eq_true rfl) (fun _ _ _ q => q.elim) ?_
      rintro _ _ ⟨rfl, rfl⟩
      obtain ⟨x4, qx4, hF⟩ := bnd_g hF
      refine B_iinc (v := 1) qx4 dX2_add_93 rfl (by decide) (by decide) ?_
      refine V_goto (tgt := 71) dX2_add_96 (by decide) ?_
      exact V_lv' (ih _ _ _ hF) (v_all_c rfl (v_all_c rfl (v_all_c rfl (v_all_c rfl (v_all_c rfl v_all_n)))))
set_option maxRecDepth 100000 in
set_option maxHeartbeats 4000000 in
theorem w_X2_add_L108 {l : Launch} {s0 : State} {D : va_G} {a0 : Array Value} {sh : List Sh} {f : Nat} {t : Nat} {p1 : Int64} {p3 : Int64} (ht : isX2 sh t) {r : St} {d : Nat} (G : GC l s0 D a0) (hd : 2 ≤ d + 1) : ∀ (n : Nat) (S : St) (l7 : Int32), F_X2_add_L108 sh f t p1 p3 n S l7 = some r → V l s0 D (d + 1) 0 0 mX2_add (fun v h => v = none ∧ h = wd s0.heap.size sh r) v_noX 108 [(0, .ref (s0.heap.size + t)), (1, .long p1), (7, .int l7)] [] (wd s0.heap.size sh S) := by
  intro n
  induction n with
  | zero => intro S l7 hF; cases hF
  | succ n ih =>
    intro S l7 hF
    unfold F_X2_add_L108 at hF
    refine V_iload dX2_add_108 rfl ?_
    refine V_bipush (v := 12) dX2_add_110 (by decide) ?_
    refine V_icmp_ge (tgt := 155) dX2_add_112 (by decide) (fun c => ?_) (fun c => ?_)
    · replace hF := (if_pos c).symm.trans hF
      cases hF
      exact V_return dX2_add_155 rfl ⟨rfl, rfl⟩
    · replace hF := (if_neg c).symm.trans hF
      refine V_aload_n dX2_add_115 rfl ?_
      refine X_gC G dX2_add_116 fX2_13 ht.1 rfl ?_
      refine V_iload dX2_add_119 rfl ?_
      refine V_dup2 dX2_add_121 rfl rfl ?_
      obtain ⟨hz, hF⟩ := gv_out hF
      refine X_lald dX2_add_122 ht.2.2.1 hz ?_
      refine V_lload_n dX2_add_123 rfl ?_
      refine V_lconst (v := 0) dX2_add_124 (by decide) ?_
      refine V_lcmp dX2_add_125 ?_
      refine V_if_ge (tgt := 140) dX2_add_126 (by decide) (fun c => ?_) (fun c => ?_)
      · replace hF := (if_pos c).symm.trans hF
        refine V_aload_n dX2_add_140 rfl ?_
        refine X_gC G dX2_add_141 fX2_17 ht.1 rfl ?_
        refine V_iload dX2_add_144 rfl ?_
        obtain ⟨hz, hF⟩ := gv_out hF
        refine X_lald dX2_add_146 ht.2.2.2 hz ?_
        refine V_ladd dX2_add_147 ?_
        obtain ⟨hz, hF⟩ := gv_out hF
        refine X_last dX2_add_148 ht.2.2.1 hz ?_
        obtain ⟨S1, qS1, hF⟩ := bnd_g hF
        refine V_eqS qS1 ?_
        obtain ⟨x2, qx2, hF⟩ := bnd_g hF
        refine B_iinc (v := 1) qx2 dX2_add_149 rfl (by decide) (by decide) ?_
        refine V_goto (tgt := 108) dX2_add_152 (by decide) ?_
        exact V_lv' (ih _ _ hF) (v_all_c rfl (v_all_c rfl (v_all_c rfl v_all_n)))
      · replace hF := (if_neg c).symm.trans hF
        refine V_aload_n dX2_add_129 rfl ?_
        refine X_gC G dX2_add_130 fX2_17 ht.1 rfl ?_
        refine V_iload dX2_add_133 rfl ?_
        obtain ⟨hz, hF⟩ := gv_out hF
        refine X_lald dX2_add_135 ht.2.2.2 hz ?_
        refine V_lneg dX2_add_136 ?_
        refine V_goto (tgt := 147) dX2_add_137 (by decide) ?_
        refine V_ladd dX2_add_147 ?_
        obtain ⟨hz, hF⟩ := gv_out hF
        refine X_last dX2_add_148 ht.2.2.1 hz ?_
        obtain ⟨S3, qS3, hF⟩ := bnd_g hF
        refine V_eqS qS3 ?_
        obtain ⟨x4, qx4, hF⟩ := bnd_g hF
        refine B_iinc (v := 1) qx4 dX2_add_149 rfl (by decide) (by decide) ?_
        refine V_goto (tgt := 108) dX2_add_152 (by decide) ?_
        exact V_lv' (ih _ _ hF) (v_all_c rfl (v_all_c rfl (v_all_c rfl v_all_n)))
set_option maxRecDepth 100000 in
set_option maxHeartbeats 4000000 in
theorem w_X2_add_L52 {l : Launch} {s0 : State} {D : va_G} {a0 : Array Value} {sh : List Sh} {f : Nat} {t : Nat} {p1 : Int64} {p3 : Int64} (ht : isX2 sh t) {r : St} {d : Nat} (G : GC l s0 D a0) (hd : 2 ≤ d + 1) : ∀ (n : Nat) (S : St) (l7 : Int32), F_X2_add_L52 sh f t p1 p3 n S l7 = some r → V l s0 D (d + 1) 0 0 mX2_add (fun v h => v = none ∧ h = wd s0.heap.size sh r) v_noX 52 [(0, .ref (s0.heap.size + t)), (1, .long p1), (3, .long p3), (7, .int l7)] [] (wd s0.heap.size sh S) := by
  intro n
  induction n with
  | zero => intro S l7 hF; cases hF
  | succ n ih =>
    intro S l7 hF
    unfold F_X2_add_L52 at hF
    refine V_iload dX2_add_52 rfl ?_
    refine V_bipush (v := 25) dX2_add_54 (by decide) ?_
    refine V_icmp_ge (tgt := 105) dX2_add_56 (by decide) (fun c => ?_) (fun c => ?_)
    · replace hF := (if_pos c).symm.trans hF
      refine V_iconst (v := 0) dX2_add_105 (by decide) ?_
      refine V_istore dX2_add_106 (by decide) ?_
      exact V_lv' (w_X2_add_L108 ht G hd f _ _ hF) (v_all_c rfl (v_all_c rfl (v_all_c rfl v_all_n)))
    · replace hF := (if_neg c).symm.trans hF
      refine V_gtab G dX2_add_59 (v_tb1) zX2_20 (fun a1 ha1 => ?_)
      refine V_iload dX2_add_62 rfl ?_
      obtain ⟨hz, hF⟩ := gv_out hF
      refine V_tald (f := v_tf v_T1) dX2_add_64 ha1 hz ?_
      refine V_lload_n dX2_add_65 rfl ?_
      obtain ⟨y2, hc, hF⟩ := bd hF
      refine V_callS dX2_add_66 kX2_23 (s_X2_exponentOf G hc (by omega)) rfl (Nat.le_of_ble_eq_true rfl) (fun _ _ _ q => q.elim) ?_
      rintro _ _ ⟨rfl, rfl⟩
      refine V_istore dX2_add_69 (by decide) ?_
      exact V_lv' (w_X2_add_L71 ht G hd ih f _ _ _ hF) (v_all_c rfl (v_all_c rfl (v_all_c rfl (v_all_c rfl (v_all_c rfl v_all_n)))))
set_option maxRecDepth 100000 in
set_option maxHeartbeats 4000000 in
theorem w_X2_add_L16 {l : Launch} {s0 : State} {D : va_G} {a0 : Array Value} {sh : List Sh} {f : Nat} {t : Nat} {p1 : Int64} {p3 : Int64} (ht : isX2 sh t) {r : St} {d : Nat} (G : GC l s0 D a0) (hd : 2 ≤ d + 1) : ∀ (n : Nat) (S : St) (l5 : Int64) (l7 : Int32), F_X2_add_L16 sh f t p1 p3 n S l5 l7 = some r → V l s0 D (d + 1) 0 0 mX2_add (fun v h => v = none ∧ h = wd s0.heap.size sh r) v_noX 16 [(0, .ref (s0.heap.size + t)), (1, .long p1), (3, .long p3), (5, .long l5), (7, .int l7)] [] (wd s0.heap.size sh S) := by
  intro n
  induction n with
  | zero => intro S l5 l7 hF; cases hF
  | succ n ih =>
    intro S l5 l7 hF
    unfold F_X2_add_L16 at hF
    refine V_iload dX2_add_16 rfl ?_
    refine V_bipush (v := 12) dX2_add_18 (by decide) ?_
    refine V_icmp_ge (tgt := 49) dX2_add_20 (by decide) (fun c => ?_) (fun c => ?_)
    · replace hF := (if_pos c).symm.trans hF
      refine V_iconst (v := 0) dX2_add_49 (by decide) ?_
      refine V_istore dX2_add_50 (by decide) ?_
      exact V_lv' (w_X2_add_L52 ht G hd f _ _ hF) (v_all_c rfl (v_all_c rfl (v_all_c rfl (v_all_c rfl v_all_n))))
    · replace hF := (if_neg c).symm.trans hF
      refine V_aload_n dX2_add_23 rfl ?_
      refine X_gC G dX2_add_24 fX2_17 ht.1 rfl ?_
      refine V_iload dX2_add_27 rfl ?_
      refine V_lload dX2_add_29 rfl ?_
      refine V_ldc2 dX2_add_31 qX2_37 ?_
      refine V_land dX2_add_34 ?_
      obtain ⟨hz, hF⟩ := gv_out hF
      refine X_last dX2_add_35 ht.2.2.2 hz ?_
      obtain ⟨S1, qS1, hF⟩ := bnd_g hF
      refine V_eqS qS1 ?_
      refine V_lload dX2_add_36 rfl ?_
      refine V_bipush (v := 30) dX2_add_38 (by decide) ?_
      refine V_lshr dX2_add_40 ?_
      obtain ⟨x2, qx2, hF⟩ := bnd_g hF
      refine B_lstore qx2 dX2_add_41 (by decide) ?_
      obtain ⟨x3, qx3, hF⟩ := bnd_g hF
      refine B_iinc (v := 1) qx3 dX2_add_43 rfl (by decide) (by decide) ?_
      refine V_goto (tgt := 16) dX2_add_46 (by decide) ?_
      exact V_lv' (ih _ _ _ hF) (v_all_c rfl (v_all_c rfl (v_all_c rfl (v_all_c rfl (v_all_c rfl v_all_n)))))
set_option maxRecDepth 100000 in
set_option maxHeartbeats 4000000 in
theorem s_X2_add {l : Launch} {s0 : State} {D : va_G} {a0 : Array Value} {sh : List Sh} {f : Nat} {S : St} {t : Nat} {p1 : Int64} {p3 : Int64} (ht : isX2 sh t) {r : St} (G : GC l s0 D a0) (hF : F_X2_add sh f S t p1 p3 = some r) {d : Nat} (hd : 2 ≤ d) : Sp l s0 D d 0 0 mX2_add (fun v h => v = none ∧ h = wd s0.heap.size sh r) v_noX [.ref (s0.heap.size + t), .long p1, .long p3] (wd s0.heap.size sh S) := by
  obtain ⟨d, rfl⟩ : ∃ e, d = e + 1 := ⟨d - 1, by omega⟩
  refine Sp.of (by decide +kernel) rfl (Nat.le_of_ble_eq_true rfl) ?_
  unfold F_X2_add at hF
  refine V_lload_n dX2_add_0 rfl ?_
  refine V_lconst (v := 0) dX2_add_1 (by decide) ?_
  refine V_lcmp dX2_add_2 ?_
  refine V_if_ne (tgt := 7) dX2_add_3 (by decide) (fun c => ?_) (fun c => ?_)
  · replace hF := (if_neg c).symm.trans hF
    refine V_lload_n dX2_add_7 rfl ?_
    obtain ⟨y1, hc, hF⟩ := bd hF
    refine V_callS dX2_add_8 kX2_33 (s_J9_abs_067f4 G hc (by omega)) rfl (Nat.le_of_ble_eq_true rfl) (fun _ _ _ q => q.elim) ?_
    rintro _ _ ⟨rfl, rfl⟩
    refine V_lstore dX2_add_11 (by decide) ?_
    refine V_iconst (v := 0) dX2_add_13 (by decide) ?_
    refine V_istore dX2_add_14 (by decide) ?_
    exact V_lv' (w_X2_add_L16 ht G hd f _ _ _ hF) (v_all_c rfl (v_all_c rfl (v_all_c rfl (v_all_c rfl (v_all_c rfl v_all_n)))))
  · replace hF := (if_pos c).symm.trans hF
    cases hF
    exact V_return dX2_add_6 rfl ⟨rfl, rfl⟩
set_option maxRecDepth 100000 in
set_option maxHeartbeats 4000000 in
theorem w_X2_carryOver_L5 {l : Launch} {s0 : State} {D : va_G} {a0 : Array Value} {sh : List Sh} {f : Nat} {t : Nat} {p1 : Int32} (ht : isX2 sh t) {r : Int64 × St} {d : Nat} (G : GC l s0 D a0) (hd : 1 ≤ d + 1) : ∀ (n : Nat) (S : St) (l2 : Int64) (l4 : Int32), F_X2_carryOver_L5 sh f t p1 n S l2 l4 = some r → V l s0 D (d + 1) 0 0 mX2_carryOver (fun v h => v = some (.long r.1) ∧ h = wd s0.heap.size sh r.2) v_noX 5 [(0, .ref (s0.heap.size + t)), (1, .int p1), (2, .long l2), (4, .int l4)] [] (wd s0.heap.size sh S) := by
  intro n
  induction n with
  | zero => intro S l2 l4 hF; cases hF
  | succ n ih =>
    intro S l2 l4 hF
    unfold F_X2_carryOver_L5 at hF
    refine V_iload dX2_carryOver_5 rfl ?_
    refine V_bipush (v := 12) dX2_carryOver_7 (by decide) ?_
    refine V_icmp_ge (tgt := 49) dX2_carryOver_9 (by decide) (fun c => ?_) (fun c => ?_)
    · replace hF := (if_pos c).symm.trans hF
      refine V_lload_n dX2_carryOver_49 rfl ?_
      cases hF
      exact V_lreturn dX2_carryOver_50 rfl ⟨rfl, rfl⟩
    · replace hF := (if_neg c).symm.trans hF
      refine V_lload_n dX2_carryOver_12 rfl ?_
      refine V_aload_n dX2_carryOver_13 rfl ?_
      refine X_gC G dX2_carryOver_14 fX2_13 ht.1 rfl ?_
      refine V_iload dX2_carryOver_17 rfl ?_
      obtain ⟨hz, hF⟩ := gv_out hF
      refine X_lald dX2_carryOver_19 ht.2.2.1 hz ?_
      refine V_ladd dX2_carryOver_20 ?_
      obtain ⟨x1, qx1, hF⟩ := bnd_g hF
      refine B_lstore_n qx1 dX2_carryOver_21 (by decide) ?_
      refine V_iload_n dX2_carryOver_22 rfl ?_
      refine V_if_eq (tgt := 38) dX2_carryOver_23 (by decide) (fun c => ?_) (fun c => ?_)
      · replace hF := (if_pos c).symm.trans hF
        refine V_lload_n dX2_carryOver_38 rfl ?_
        refine V_bipush (v := 30) dX2_carryOver_39 (by decide) ?_
        refine V_lshr dX2_carryOver_41 ?_
        obtain ⟨x2, qx2, hF⟩ := bnd_g hF
        refine B_lstore_n qx2 dX2_carryOver_42 (by decide) ?_
        obtain ⟨x3, qx3, hF⟩ := bnd_g hF
        refine B_iinc (v := 1) qx3 dX2_carryOver_43 rfl (by decide) (by decide) ?_
        refine V_goto (tgt := 5) dX2_carryOver_46 (by decide) ?_
        exact V_lv' (ih _ _ _ hF) (v_all_c rfl (v_all_c rfl (v_all_c rfl (v_all_c rfl v_all_n))))
      · replace hF := (if_neg c).symm.trans hF
        refine V_aload_n dX2_carryOver_26 rfl ?_
        refine X_gC G dX2_carryOver_27 fX2_13 ht.1 rfl ?_
        refine V_iload dX2_carryOver_30 rfl ?_
        refine V_lload_n dX2_carryOver_32 rfl ?_
        refine V_ldc2 dX2_carryOver_33 qX2_37 ?_
        refine V_land dX2_carryOver_36 ?_
        obtain ⟨hz, hF⟩ := gv_out hF
        refine X_last dX2_carryOver_37 ht.2.2.1 hz ?_
        obtain ⟨S4, qS4, hF⟩ := bnd_g hF
        refine V_eqS qS4 ?_
        refine V_lload_n dX2_carryOver_38 rfl ?_
        refine V_bipush (v := 30) dX2_carryOver_39 (by decide) ?_
        refine V_lshr dX2_carryOver_41 ?_
        obtain ⟨x5, qx5, hF⟩ := bnd_g hF
        refine B_lstore_n qx5 dX2_carryOver_42 (by decide) ?_
        obtain ⟨x6, qx6, hF⟩ := bnd_g hF
        refine B_iinc (v := 1) qx6 dX2_carryOver_43 rfl (by decide) (by decide) ?_
        refine V_goto (tgt := 5) dX2_carryOver_46 (by decide) ?_
        exact V_lv' (ih _ _ _ hF) (v_all_c rfl (v_all_c rfl (v_all_c rfl (v_all_c rfl v_all_n))))
set_option maxRecDepth 100000 in
set_option maxHeartbeats 4000000 in
theorem s_X2_carryOver {l : Launch} {s0 : State} {D : va_G} {a0 : Array Value} {sh : List Sh} {f : Nat} {S : St} {t : Nat} {p1 : Int32} (ht : isX2 sh t) {r : Int64 × St} (G : GC l s0 D a0) (hF : F_X2_carryOver sh f S t p1 = some r) {d : Nat} (hd : 1 ≤ d) : Sp l s0 D d 0 0 mX2_carryOver (fun v h => v = some (.long r.1) ∧ h = wd s0.heap.size sh r.2) v_noX [.ref (s0.heap.size + t), .int p1] (wd s0.heap.size sh S) := by
  obtain ⟨d, rfl⟩ : ∃ e, d = e + 1 := ⟨d - 1, by omega⟩
  refine Sp.of (by decide +kernel) rfl (Nat.le_of_ble_eq_true rfl) ?_
  unfold F_X2_carryOver at hF
  refine V_lconst (v := 0) dX2_carryOver_0 (by decide) ?_
  refine V_lstore_n dX2_carryOver_1 (by decide) ?_
  refine V_iconst (v := 0) dX2_carryOver_2 (by decide) ?_
  refine V_istore dX2_carryOver_3 (by decide) ?_
  exact V_lv' (w_X2_carryOver_L5 ht G hd f _ _ _ hF) (v_all_c rfl (v_all_c rfl (v_all_c rfl (v_all_c rfl v_all_n))))
set_option maxRecDepth 100000 in
set_option maxHeartbeats 4000000 in
theorem w_X2_isDivisible_L6 {l : Launch} {s0 : State} {D : va_G} {a0 : Array Value} {sh : List Sh} {f : Nat} {S : St} {t : Nat} {p1 : Int32} (ht : isX2 sh t) {r : Int32} {d : Nat} (G : GC l s0 D a0) (hd : 1 ≤ d + 1) : ∀ (n : Nat) (l2 : Int64) (l4 : Int32), F_X2_isDivisible_L6 sh f S t p1 n l2 l4 = some r → V l s0 D (d + 1) 0 0 mX2_isDivisible (fun v h => v = some (.int r) ∧ h = wd s0.heap.size sh S) v_noX 6 [(0, .ref (s0.heap.size + t)), (1, .int p1), (2, .long l2), (4, .int l4)] [] (wd s0.heap.size sh S) := by
  intro n
  induction n with
  | zero => intro l2 l4 hF; cases hF
  | succ n ih =>
    intro l2 l4 hF
    unfold F_X2_isDivisible_L6 at hF
    refine V_iload dX2_isDivisible_6 rfl ?_
    refine V_if_lt (tgt := 33) dX2_isDivisible_8 (by decide) (fun c => ?_) (fun c => ?_)
    · replace hF := (if_pos c).symm.trans hF
      refine V_lload_n dX2_isDivisible_33 rfl ?_
      refine V_lconst (v := 0) dX2_isDivisible_34 (by decide) ?_
      refine V_lcmp dX2_isDivisible_35 ?_
      refine V_if_ne (tgt := 43) dX2_isDivisible_36 (by decide) (fun c => ?_) (fun c => ?_)
      · replace hF := (if_neg c).symm.trans hF
        refine V_iconst (v := 0) dX2_isDivisible_43 (by decide) ?_
        cases hF
        exact V_ireturn dX2_isDivisible_44 rfl (by decide) ⟨rfl, rfl⟩
      · replace hF := (if_pos c).symm.trans hF
        refine V_iconst (v := 1) dX2_isDivisible_39 (by decide) ?_
        refine V_goto (tgt := 44) dX2_isDivisible_40 (by decide) ?_
        cases hF
        exact V_ireturn dX2_isDivisible_44 rfl (by decide) ⟨rfl, rfl⟩
    · replace hF := (if_neg c).symm.trans hF
      refine V_lload_n dX2_isDivisible_11 rfl ?_
      refine V_bipush (v := 30) dX2_isDivisible_12 (by decide) ?_
      refine V_lshl dX2_isDivisible_14 ?_
      refine V_aload_n dX2_isDivisible_15 rfl ?_
      refine X_gC G dX2_isDivisible_16 fX2_13 ht.1 rfl ?_
      refine V_iload dX2_isDivisible_19 rfl ?_
      obtain ⟨hz, hF⟩ := gv_out hF
      refine X_lald dX2_isDivisible_21 ht.2.2.1 hz ?_
      refine V_ladd dX2_isDivisible_22 ?_
      refine V_iload_n dX2_isDivisible_23 rfl ?_
      refine V_i2l dX2_isDivisible_24 ?_
      obtain ⟨hz, hF⟩ := gv_out hF
      refine V_lrem dX2_isDivisible_25 hz ?_
      obtain ⟨x1, qx1, hF⟩ := bnd_g hF
      refine B_lstore_n qx1 dX2_isDivisible_26 (by decide) ?_
      obtain ⟨x2, qx2, hF⟩ := bnd_g hF
      refine B_iinc (v := -1) qx2 dX2_isDivisible_27 rfl (by decide) (by decide) ?_
      refine V_goto (tgt := 6) dX2_isDivisible_30 (by decide) ?_
      exact V_lv' (ih _ _ hF) (v_all_c rfl (v_all_c rfl (v_all_c rfl (v_all_c rfl v_all_n))))
set_option maxRecDepth 100000 in
set_option maxHeartbeats 4000000 in
theorem s_X2_isDivisible {l : Launch} {s0 : State} {D : va_G} {a0 : Array Value} {sh : List Sh} {f : Nat} {S : St} {t : Nat} {p1 : Int32} (ht : isX2 sh t) {r : Int32} (G : GC l s0 D a0) (hF : F_X2_isDivisible sh f S t p1 = some r) {d : Nat} (hd : 1 ≤ d) : Sp l s0 D d 0 0 mX2_isDivisible (fun v h => v = some (.int r) ∧ h = wd s0.heap.size sh S) v_noX [.ref (s0.heap.size + t), .int p1] (wd s0.heap.size sh S) := by
  obtain ⟨d, rfl⟩ : ∃ e, d = e + 1 := ⟨d - 1, by omega⟩
  refine Sp.of (by decide +kernel) rfl (Nat.le_of_ble_eq_true rfl) ?_
  unfold F_X2_isDivisible at hF
  refine V_lconst (v := 0) dX2_isDivisible_0 (by decide) ?_
  refine V_lstore_n dX2_isDivisible_1 (by decide) ?_
  refine V_bipush (v := 11) dX2_isDivisible_2 (by decide) ?_
  refine V_istore dX2_isDivisible_4 (by decide) ?_
  exact V_lv' (w_X2_isDivisible_L6 ht G hd f _ _ hF) (v_all_c rfl (v_all_c rfl (v_all_c rfl (v_all_c rfl v_all_n))))
set_option maxRecDepth 100000 in
set_option maxHeartbeats 4000000 in
theorem w_X2_divide_L6 {l : Launch} {s0 : State} {D : va_G} {a0 : Array Value} {sh : List Sh} {f : Nat} {t : Nat} {p1 : Int32} (ht : isX2 sh t) {r : St} {d : Nat} (G : GC l s0 D a0) (hd : 1 ≤ d + 1) : ∀ (n : Nat) (S : St) (l2 : Int64) (l4 : Int32), F_X2_divide_L6 sh f t p1 n S l2 l4 = some r → V l s0 D (d + 1) 0 0 mX2_divide (fun v h => v = none ∧ h = wd s0.heap.size sh r) v_noX 6 [(0, .ref (s0.heap.size + t)), (1, .int p1), (2, .long l2), (4, .int l4)] [] (wd s0.heap.size sh S) := by
  intro n
  induction n with
  | zero => intro S l2 l4 hF; cases hF
  | succ n ih =>
    intro S l2 l4 hF
    unfold F_X2_divide_L6 at hF
    refine V_iload dX2_divide_6 rfl ?_
    refine V_if_lt (tgt := 46) dX2_divide_8 (by decide) (fun c => ?_) (fun c => ?_)
    · replace hF := (if_pos c).symm.trans hF
      cases hF
      exact V_return dX2_divide_46 rfl ⟨rfl, rfl⟩
    · replace hF := (if_neg c).symm.trans hF
      refine V_lload_n dX2_divide_11 rfl ?_
      refine V_bipush (v := 30) dX2_divide_12 (by decide) ?_
      refine V_lshl dX2_divide_14 ?_
      refine V_aload_n dX2_divide_15 rfl ?_
      refine X_gC G dX2_divide_16 fX2_13 ht.1 rfl ?_
      refine V_iload dX2_divide_19 rfl ?_
      obtain ⟨hz, hF⟩ := gv_out hF
      refine X_lald dX2_divide_21 ht.2.2.1 hz ?_
      refine V_ladd dX2_divide_22 ?_
      obtain ⟨x1, qx1, hF⟩ := bnd_g hF
      refine B_lstore_n qx1 dX2_divide_23 (by decide) ?_
      refine V_aload_n dX2_divide_24 rfl ?_
      refine X_gC G dX2_divide_25 fX2_13 ht.1 rfl ?_
      refine V_iload dX2_divide_28 rfl ?_
      refine V_lload_n dX2_divide_30 rfl ?_
      refine V_iload_n dX2_divide_31 rfl ?_
      refine V_i2l dX2_divide_32 ?_
      obtain ⟨hz, hF⟩ := gv_out hF
      refine V_ldiv dX2_divide_33 hz ?_
      obtain ⟨hz, hF⟩ := gv_out hF
      refine X_last dX2_divide_34 ht.2.2.1 hz ?_
      obtain ⟨S2, qS2, hF⟩ := bnd_g hF
      refine V_eqS qS2 ?_
      refine V_lload_n dX2_divide_35 rfl ?_
      refine V_iload_n dX2_divide_36 rfl ?_
      refine V_i2l dX2_divide_37 ?_
      obtain ⟨hz, hF⟩ := gv_out hF
      refine V_lrem dX2_divide_38 hz ?_
      obtain ⟨x3, qx3, hF⟩ := bnd_g hF
      refine B_lstore_n qx3 dX2_divide_39 (by decide) ?_
      obtain ⟨x4, qx4, hF⟩ := bnd_g hF
      refine B_iinc (v := -1) qx4 dX2_divide_40 rfl (by decide) (by decide) ?_
      refine V_goto (tgt := 6) dX2_divide_43 (by decide) ?_
      exact V_lv' (ih _ _ _ hF) (v_all_c rfl (v_all_c rfl (v_all_c rfl (v_all_c rfl v_all_n))))
set_option maxRecDepth 100000 in
set_option maxHeartbeats 4000000 in
theorem s_X2_divide {l : Launch} {s0 : State} {D : va_G} {a0 : Array Value} {sh : List Sh} {f : Nat} {S : St} {t : Nat} {p1 : Int32} (ht : isX2 sh t) {r : St} (G : GC l s0 D a0) (hF : F_X2_divide sh f S t p1 = some r) {d : Nat} (hd : 1 ≤ d) : Sp l s0 D d 0 0 mX2_divide (fun v h => v = none ∧ h = wd s0.heap.size sh r) v_noX [.ref (s0.heap.size + t), .int p1] (wd s0.heap.size sh S) := by
  obtain ⟨d, rfl⟩ : ∃ e, d = e + 1 := ⟨d - 1, by omega⟩
  refine Sp.of (by decide +kernel) rfl (Nat.le_of_ble_eq_true rfl) ?_
  unfold F_X2_divide at hF
  refine V_lconst (v := 0) dX2_divide_0 (by decide) ?_
  refine V_lstore_n dX2_divide_1 (by decide) ?_
  refine V_bipush (v := 11) dX2_divide_2 (by decide) ?_
  refine V_istore dX2_divide_4 (by decide) ?_
  exact V_lv' (w_X2_divide_L6 ht G hd f _ _ _ hF) (v_all_c rfl (v_all_c rfl (v_all_c rfl (v_all_c rfl v_all_n))))
set_option maxRecDepth 100000 in
set_option maxHeartbeats 4000000 in
theorem w_X2_numeratorSize_L2 {l : Launch} {s0 : State} {D : va_G} {a0 : Array Value} {sh : List Sh} {f : Nat} {S : St} {t : Nat} (ht : isX2 sh t) {r : Int64} {d : Nat} (G : GC l s0 D a0) (hd : 1 ≤ d + 1) : ∀ (n : Nat) (l1 : Int32), F_X2_numeratorSize_L2 sh f S t n l1 = some r → V l s0 D (d + 1) 0 0 mX2_numeratorSize (fun v h => v = some (.long r) ∧ h = wd s0.heap.size sh S) v_noX 2 [(0, .ref (s0.heap.size + t)), (1, .int l1)] [] (wd s0.heap.size sh S) := by
  intro n
  induction n with
  | zero => intro l1 hF; cases hF
  | succ n ih =>
    intro l1 hF
    unfold F_X2_numeratorSize_L2 at hF
    refine V_iload_n dX2_numeratorSize_2 rfl ?_
    refine V_bipush (v := 12) dX2_numeratorSize_3 (by decide) ?_
    refine V_icmp_ge (tgt := 29) dX2_numeratorSize_5 (by decide) (fun c => ?_) (fun c => ?_)
    · replace hF := (if_pos c).symm.trans hF
      refine V_aload_n dX2_numeratorSize_29 rfl ?_
      refine X_gC G dX2_numeratorSize_30 fX2_13 ht.1 rfl ?_
      refine V_iconst (v := 1) dX2_numeratorSize_33 (by decide) ?_
      obtain ⟨hz, hF⟩ := gv_out hF
      refine X_lald dX2_numeratorSize_34 ht.2.2.1 hz ?_
      refine V_bipush (v := 30) dX2_numeratorSize_35 (by decide) ?_
      refine V_lshl dX2_numeratorSize_37 ?_
      refine V_aload_n dX2_numeratorSize_38 rfl ?_
      refine X_gC G dX2_numeratorSize_39 fX2_13 ht.1 rfl ?_
      refine V_iconst (v := 0) dX2_numeratorSize_42 (by decide) ?_
      obtain ⟨hz, hF⟩ := gv_out hF
      refine X_lald dX2_numeratorSize_43 ht.2.2.1 hz ?_
      refine V_ladd dX2_numeratorSize_44 ?_
      cases hF
      exact V_lreturn dX2_numeratorSize_45 rfl ⟨rfl, rfl⟩
    · replace hF := (if_neg c).symm.trans hF
      refine V_aload_n dX2_numeratorSize_8 rfl ?_
      refine X_gC G dX2_numeratorSize_9 fX2_13 ht.1 rfl ?_
      refine V_iload_n dX2_numeratorSize_12 rfl ?_
      obtain ⟨hz, hF⟩ := gv_out hF
      refine X_lald dX2_numeratorSize_13 ht.2.2.1 hz ?_
      refine V_lconst (v := 0) dX2_numeratorSize_14 (by decide) ?_
      refine V_lcmp dX2_numeratorSize_15 ?_
      refine V_if_eq (tgt := 23) dX2_numeratorSize_16 (by decide) (fun c => ?_) (fun c => ?_)
      · replace hF := (if_pos c).symm.trans hF
        obtain ⟨x1, qx1, hF⟩ := bnd_g hF
        refine B_iinc (v := 1) qx1 dX2_numeratorSize_23 rfl (by decide) (by decide) ?_
        refine V_goto (tgt := 2) dX2_numeratorSize_26 (by decide) ?_
        exact V_lv' (ih _ hF) (v_all_c rfl (v_all_c rfl v_all_n))
      · replace hF := (if_neg c).symm.trans hF
        refine V_ldc2 dX2_numeratorSize_19 qX2_74 ?_
        cases hF
        exact V_lreturn dX2_numeratorSize_22 rfl ⟨rfl, rfl⟩
set_option maxRecDepth 100000 in
set_option maxHeartbeats 4000000 in
theorem s_X2_numeratorSize {l : Launch} {s0 : State} {D : va_G} {a0 : Array Value} {sh : List Sh} {f : Nat} {S : St} {t : Nat} (ht : isX2 sh t) {r : Int64} (G : GC l s0 D a0) (hF : F_X2_numeratorSize sh f S t = some r) {d : Nat} (hd : 1 ≤ d) : Sp l s0 D d 0 0 mX2_numeratorSize (fun v h => v = some (.long r) ∧ h = wd s0.heap.size sh S) v_noX [.ref (s0.heap.size + t)] (wd s0.heap.size sh S) := by
  obtain ⟨d, rfl⟩ : ∃ e, d = e + 1 := ⟨d - 1, by omega⟩
  refine Sp.of (by decide +kernel) rfl (Nat.le_of_ble_eq_true rfl) ?_
  unfold F_X2_numeratorSize at hF
  refine V_iconst (v := 2) dX2_numeratorSize_0 (by decide) ?_
  refine V_istore_n dX2_numeratorSize_1 (by decide) ?_
  exact V_lv' (w_X2_numeratorSize_L2 ht G hd f _ hF) (v_all_c rfl (v_all_c rfl v_all_n))
set_option maxRecDepth 100000 in
set_option maxHeartbeats 4000000 in
theorem w_X2_denominatorSize_L13 {l : Launch} {s0 : State} {D : va_G} {a0 : Array Value} {sh : List Sh} {f : Nat} {S : St} {t : Nat} (ht : isX2 sh t) {r : Int64} {d : Nat} (G : GC l s0 D a0) (hd : 1 ≤ d + 1) {k4 : Int64 → Int32 → Option (Int64)} (hk4 : ∀ (l1 : Int64) (l3 : Int32), k4 l1 l3 = some r → V l s0 D (d + 1) 0 0 mX2_denominatorSize (fun v h => v = some (.long r) ∧ h = wd s0.heap.size sh S) v_noX 4 [(0, .ref (s0.heap.size + t)), (1, .long l1), (3, .int l3)] [] (wd s0.heap.size sh S)) : ∀ (n : Nat) (l1 : Int64) (l3 : Int32) (l4 : Int32), F_X2_denominatorSize_L13 sh f S t k4 n l1 l3 l4 = some r → V l s0 D (d + 1) 0 0 mX2_denominatorSize (fun v h => v = some (.long r) ∧ h = wd s0.heap.size sh S) v_noX 13 [(0, .ref (s0.heap.size + t)), (1, .long l1), (3, .int l3), (4, .int l4)] [] (wd s0.heap.size sh S) := by
  intro n
  induction n with
  | zero => intro l1 l3 l4 hF; cases hF
  | succ n ih =>
    intro l1 l3 l4 hF
    unfold F_X2_denominatorSize_L13 at hF
    refine V_iload dX2_denominatorSize_13 rfl ?_
    refine V_aload_n dX2_denominatorSize_15 rfl ?_
    refine X_gC G dX2_denominatorSize_16 fX2_9 ht.1 rfl ?_
    refine V_iload_n dX2_denominatorSize_19 rfl ?_
    obtain ⟨hz, hF⟩ := gv_out hF
    refine X_iald dX2_denominatorSize_20 ht.2.1 hz ?_
    refine V_icmp_ge (tgt := 58) dX2_denominatorSize_21 (by decide) (fun c => ?_) (fun c => ?_)
    · replace hF := (if_pos c).symm.trans hF
      obtain ⟨x1, qx1, hF⟩ := bnd_g hF
      refine B_iinc (v := 1) qx1 dX2_denominatorSize_58 rfl (by decide) (by decide) ?_
      refine V_goto (tgt := 4) dX2_denominatorSize_61 (by decide) ?_
      exact V_lv' (hk4 _ _ hF) (v_all_c rfl (v_all_c rfl (v_all_c rfl v_all_n)))
    · replace hF := (if_neg c).symm.trans hF
      refine V_lload_n dX2_denominatorSize_24 rfl ?_
      refine V_ldc2 dX2_denominatorSize_25 qX2_68 ?_
      refine V_gtab G dX2_denominatorSize_28 (v_tb1) zX2_20 (fun a2 ha2 => ?_)
      refine V_iload_n dX2_denominatorSize_31 rfl ?_
      obtain ⟨hz, hF⟩ := gv_out hF
      refine V_tald (f := v_tf v_T1) dX2_denominatorSize_32 ha2 hz ?_
      refine V_i2l dX2_denominatorSize_33 ?_
      obtain ⟨hz, hF⟩ := gv_out hF
      refine V_ldiv dX2_denominatorSize_34 hz ?_
      refine V_lcmp dX2_denominatorSize_35 ?_
      refine V_if_le (tgt := 43) dX2_denominatorSize_36 (by decide) (fun c => ?_) (fun c => ?_)
      · replace hF := (if_pos c).symm.trans hF
        refine V_lload_n dX2_denominatorSize_43 rfl ?_
        refine V_gtab G dX2_denominatorSize_44 (v_tb1) zX2_20 (fun a3 ha3 => ?_)
        refine V_iload_n dX2_denominatorSize_47 rfl ?_
        obtain ⟨hz, hF⟩ := gv_out hF
        refine V_tald (f := v_tf v_T1) dX2_denominatorSize_48 ha3 hz ?_
        refine V_i2l dX2_denominatorSize_49 ?_
        refine V_lmul dX2_denominatorSize_50 ?_
        obtain ⟨x4, qx4, hF⟩ := bnd_g hF
        refine B_lstore_n qx4 dX2_denominatorSize_51 (by decide) ?_
        obtain ⟨x5, qx5, hF⟩ := bnd_g hF
        refine B_iinc (v := 1) qx5 dX2_denominatorSize_52 rfl (by decide) (by decide) ?_
        refine V_goto (tgt := 13) dX2_denominatorSize_55 (by decide) ?_
        exact V_lv' (ih _ _ _ hF) (v_all_c rfl (v_all_c rfl (v_all_c rfl (v_all_c rfl v_all_n))))
      · replace hF := (if_neg c).symm.trans hF
        refine V_ldc2 dX2_denominatorSize_39 qX2_74 ?_
        cases hF
        exact V_lreturn dX2_denominatorSize_42 rfl ⟨rfl, rfl⟩
set_option maxRecDepth 100000 in
set_option maxHeartbeats 4000000 in
theorem w_X2_denominatorSize_L4 {l : Launch} {s0 : State} {D : va_G} {a0 : Array Value} {sh : List Sh} {f : Nat} {S : St} {t : Nat} (ht : isX2 sh t) {r : Int64} {d : Nat} (G : GC l s0 D a0) (hd : 1 ≤ d + 1) : ∀ (n : Nat) (l1 : Int64) (l3 : Int32), F_X2_denominatorSize_L4 sh f S t n l1 l3 = some r → V l s0 D (d + 1) 0 0 mX2_denominatorSize (fun v h => v = some (.long r) ∧ h = wd s0.heap.size sh S) v_noX 4 [(0, .ref (s0.heap.size + t)), (1, .long l1), (3, .int l3)] [] (wd s0.heap.size sh S) := by
  intro n
  induction n with
  | zero => intro l1 l3 hF; cases hF
  | succ n ih =>
    intro l1 l3 hF
    unfold F_X2_denominatorSize_L4 at hF
    refine V_iload_n dX2_denominatorSize_4 rfl ?_
    refine V_bipush (v := 25) dX2_denominatorSize_5 (by decide) ?_
    refine V_icmp_ge (tgt := 64) dX2_denominatorSize_7 (by decide) (fun c => ?_) (fun c => ?_)
    · replace hF := (if_pos c).symm.trans hF
      refine V_lload_n dX2_denominatorSize_64 rfl ?_
      cases hF
      exact V_lreturn dX2_denominatorSize_65 rfl ⟨rfl, rfl⟩
    · replace hF := (if_neg c).symm.trans hF
      refine V_iconst (v := 0) dX2_denominatorSize_10 (by decide) ?_
      refine V_istore dX2_denominatorSize_11 (by decide) ?_
      exact V_lv' (w_X2_denominatorSize_L13 ht G hd ih f _ _ _ hF) (v_all_c rfl (v_all_c rfl (v_all_c rfl (v_all_c rfl v_all_n))))
set_option maxRecDepth 100000 in
set_option maxHeartbeats 4000000 in
theorem s_X2_denominatorSize {l : Launch} {s0 : State} {D : va_G} {a0 : Array Value} {sh : List Sh} {f : Nat} {S : St} {t : Nat} (ht : isX2 sh t) {r : Int64} (G : GC l s0 D a0) (hF : F_X2_denominatorSize sh f S t = some r) {d : Nat} (hd : 1 ≤ d) : Sp l s0 D d 0 0 mX2_denominatorSize (fun v h => v = some (.long r) ∧ h = wd s0.heap.size sh S) v_noX [.ref (s0.heap.size + t)] (wd s0.heap.size sh S) := by
  obtain ⟨d, rfl⟩ : ∃ e, d = e + 1 := ⟨d - 1, by omega⟩
  refine Sp.of (by decide +kernel) rfl (Nat.le_of_ble_eq_true rfl) ?_
  unfold F_X2_denominatorSize at hF
  refine V_lconst (v := 1) dX2_denominatorSize_0 (by decide) ?_
  refine V_lstore_n dX2_denominatorSize_1 (by decide) ?_
  refine V_iconst (v := 0) dX2_denominatorSize_2 (by decide) ?_
  refine V_istore_n dX2_denominatorSize_3 (by decide) ?_
  exact V_lv' (w_X2_denominatorSize_L4 ht G hd f _ _ hF) (v_all_c rfl (v_all_c rfl (v_all_c rfl v_all_n)))
set_option maxRecDepth 100000 in
set_option maxHeartbeats 4000000 in
theorem w_X2_reduce_L61 {l : Launch} {s0 : State} {D : va_G} {a0 : Array Value} {sh : List Sh} {f : Nat} {t : Nat} (ht : isX2 sh t) {r : St} {d : Nat} (G : GC l s0 D a0) (hd : 2 ≤ d + 1) {k55 : St → Int32 → Int32 → Option (St)} (hk55 : ∀ (S : St) (l1 : Int32) (l2 : Int32), k55 S l1 l2 = some r → V l s0 D (d + 1) 0 0 mX2_reduce (fun v h => v = none ∧ h = wd s0.heap.size sh r) v_noX 55 [(0, .ref (s0.heap.size + t)), (1, .int l1), (2, .int l2)] [] (wd s0.heap.size sh S)) : ∀ (n : Nat) (S : St) (l1 : Int32) (l2 : Int32), F_X2_reduce_L61 sh f t k55 n S l1 l2 = some r → V l s0 D (d + 1) 0 0 mX2_reduce (fun v h => v = none ∧ h = wd s0.heap.size sh r) v_noX 61 [(0, .ref (s0.heap.size + t)), (1, .int l1), (2, .int l2)] [] (wd s0.heap.size sh S) := by
  intro n
  induction n with
  | zero => intro S l1 l2 hF; cases hF
  | succ n ih =>
    intro S l1 l2 hF
    unfold F_X2_reduce_L61 at hF
    refine V_aload_n dX2_reduce_61 rfl ?_
    refine X_gC G dX2_reduce_62 fX2_9 ht.1 rfl ?_
    refine V_iload_n dX2_reduce_65 rfl ?_
    obtain ⟨hz, hF⟩ := gv_out hF
    refine X_iald dX2_reduce_66 ht.2.1 hz ?_
    refine V_if_le (tgt := 104) dX2_reduce_67 (by decide) (fun c => ?_) (fun c => ?_)
    · replace hF := (if_pos c).symm.trans hF
      obtain ⟨x1, qx1, hF⟩ := bnd_g hF
      refine B_iinc (v := 1) qx1 dX2_reduce_104 rfl (by decide) (by decide) ?_
      refine V_goto (tgt := 55) dX2_reduce_107 (by decide) ?_
      exact V_lv' (hk55 _ _ _ hF) (v_all_c rfl (v_all_c rfl (v_all_c rfl v_all_n)))
    · replace hF := (if_neg c).symm.trans hF
      refine V_aload_n dX2_reduce_70 rfl ?_
      refine V_gtab G dX2_reduce_71 (v_tb1) zX2_20 (fun a2 ha2 => ?_)
      refine V_iload_n dX2_reduce_74 rfl ?_
      obtain ⟨hz, hF⟩ := gv_out hF
      refine V_tald (f := v_tf v_T1) dX2_reduce_75 ha2 hz ?_
      obtain ⟨y3, hc, hF⟩ := bd hF
      refine V_callV G dX2_reduce_76 kX2_47 (wd_at ht.1) ⟨by decide, rfl⟩ (s_X2_isDivisible ht G hc (by omega)) rfl (Nat.le_of_ble_eq_true rfl) (fun _ _ _ q => q.elim) ?_
      rintro _ _ ⟨rfl, rfl⟩
      refine V_if_eq (tgt := 104) dX2_reduce_79 (by decide) (fun c => ?_) (fun c => ?_)
      · replace hF := (if_pos c).symm.trans hF
        obtain ⟨x4, qx4, hF⟩ := bnd_g hF
        refine B_iinc (v := 1) qx4 dX2_reduce_104 rfl (by decide) (by decide) ?_
        refine V_goto (tgt := 55) dX2_reduce_107 (by decide) ?_
        exact V_lv' (hk55 _ _ _ hF) (v_all_c rfl (v_all_c rfl (v_all_c rfl v_all_n)))
      · replace hF := (if_neg c).symm.trans hF
        refine V_aload_n dX2_reduce_82 rfl ?_
        refine V_gtab G dX2_reduce_83 (v_tb1) zX2_20 (fun a5 ha5 => ?_)
        refine V_iload_n dX2_reduce_86 rfl ?_
        obtain ⟨hz, hF⟩ := gv_out hF
        refine V_tald (f := v_tf v_T1) dX2_reduce_87 ha5 hz ?_
        obtain ⟨y6, hc, hF⟩ := bd hF
        refine V_callV G dX2_reduce_88 kX2_51 (wd_at ht.1) ⟨by decide, rfl⟩ (s_X2_divide ht G hc (by omega)) rfl (Nat.le_of_ble_eq_true rfl) (fun _ _ _ q => q.elim) ?_
        rintro _ _ ⟨rfl, rfl⟩
        refine V_aload_n dX2_reduce_91 rfl ?_
        refine X_gC G dX2_reduce_92 fX2_9 ht.1 rfl ?_
        refine V_iload_n dX2_reduce_95 rfl ?_
        refine V_dup2 dX2_reduce_96 rfl rfl ?_
        obtain ⟨hz, hF⟩ := gv_out hF
        refine X_iald dX2_reduce_97 ht.2.1 hz ?_
        refine V_iconst (v := 1) dX2_reduce_98 (by decide) ?_
        refine V_isub dX2_reduce_99 ?_
        obtain ⟨hz, hF⟩ := gv_out hF
        refine X_iast dX2_reduce_100 ht.2.1 hz ?_
        obtain ⟨S7, qS7, hF⟩ := bnd_g hF
        refine V_eqS qS7 ?_
        refine V_goto (tgt := 61) dX2_reduce_101 (by decide) ?_
        exact V_lv' (ih _ _ _ hF) (v_all_c rfl (v_all_c rfl (v_all_c rfl v_all_n)))
set_option maxRecDepth 100000 in
set_option maxHeartbeats 4000000 in
theorem w_X2_reduce_L144 {l : Launch} {s0 : State} {D : va_G} {a0 : Array Value} {sh : List Sh} {f : Nat} {t : Nat} (ht : isX2 sh t) {r : St} {d : Nat} (G : GC l s0 D a0) (hd : 2 ≤ d + 1) : ∀ (S : St) (l2 : Int64) (v0 : Nat) (v1 : Int64),isX2 sh v0 → F_X2_reduce_L144 sh f t S l2 v0 v1 = some r → V l s0 D (d + 1) 0 0 mX2_reduce (fun v h => v = none ∧ h = wd s0.heap.size sh r) v_noX 144 [(0, .ref (s0.heap.size + t)), (2, .long l2)] [.long v1, .ref (s0.heap.size + v0)] (wd s0.heap.size sh S) := by
  intro S l2 v0 v1 hv0 hF
  unfold F_X2_reduce_L144 at hF
  refine X_pJ G dX2_reduce_144 gX2_65 hv0.1 rfl ?_
  obtain ⟨S1, qS1, hF⟩ := bnd_g hF
  refine V_eqS qS1 ?_
  refine V_aload_n dX2_reduce_147 rfl ?_
  refine V_lload_n dX2_reduce_148 rfl ?_
  refine V_ldc2 dX2_reduce_149 qX2_68 ?_
  refine V_lcmp dX2_reduce_152 ?_
  refine V_if_gt (tgt := 171) dX2_reduce_153 (by decide) (fun c => ?_) (fun c => ?_)
  · replace hF := (if_pos c).symm.trans hF
    refine V_iconst (v := 0) dX2_reduce_171 (by decide) ?_
    refine X_pI G dX2_reduce_172 gX2_70 ht.1 rfl (by decide) (by decide) ?_
    obtain ⟨S2, qS2, hF⟩ := bnd_g hF
    refine V_eqS qS2 ?_
    cases hF
    exact V_return dX2_reduce_175 rfl ⟨rfl, rfl⟩
  · replace hF := (if_neg c).symm.trans hF
    refine V_aload_n dX2_reduce_156 rfl ?_
    refine X_gJ G dX2_reduce_157 fX2_65 ht.1 rfl ?_
    refine V_ldc2 dX2_reduce_160 qX2_68 ?_
    refine V_lcmp dX2_reduce_163 ?_
    refine V_if_gt (tgt := 171) dX2_reduce_164 (by decide) (fun c => ?_) (fun c => ?_)
    · replace hF := (if_pos c).symm.trans hF
      refine V_iconst (v := 0) dX2_reduce_171 (by decide) ?_
      refine X_pI G dX2_reduce_172 gX2_70 ht.1 rfl (by decide) (by decide) ?_
      obtain ⟨S3, qS3, hF⟩ := bnd_g hF
      refine V_eqS qS3 ?_
      cases hF
      exact V_return dX2_reduce_175 rfl ⟨rfl, rfl⟩
    · replace hF := (if_neg c).symm.trans hF
      refine V_iconst (v := 1) dX2_reduce_167 (by decide) ?_
      refine V_goto (tgt := 172) dX2_reduce_168 (by decide) ?_
      refine X_pI G dX2_reduce_172 gX2_70 ht.1 rfl (by decide) (by decide) ?_
      obtain ⟨S4, qS4, hF⟩ := bnd_g hF
      refine V_eqS qS4 ?_
      cases hF
      exact V_return dX2_reduce_175 rfl ⟨rfl, rfl⟩
set_option maxRecDepth 100000 in
set_option maxHeartbeats 4000000 in
theorem w_X2_reduce_L126 {l : Launch} {s0 : State} {D : va_G} {a0 : Array Value} {sh : List Sh} {f : Nat} {t : Nat} (ht : isX2 sh t) {r : St} {d : Nat} (G : GC l s0 D a0) (hd : 2 ≤ d + 1) : ∀ (S : St) (l2 : Int64) (v0 : Nat) (v1 : Int64),isX2 sh v0 → F_X2_reduce_L126 sh f t S l2 v0 v1 = some r → V l s0 D (d + 1) 0 0 mX2_reduce (fun v h => v = none ∧ h = wd s0.heap.size sh r) v_noX 126 [(0, .ref (s0.heap.size + t)), (2, .long l2)] [.long v1, .ref (s0.heap.size + v0)] (wd s0.heap.size sh S) := by
  intro S l2 v0 v1 hv0 hF
  unfold F_X2_reduce_L126 at hF
  refine X_pJ G dX2_reduce_126 gX2_58 hv0.1 rfl ?_
  obtain ⟨S1, qS1, hF⟩ := bnd_g hF
  refine V_eqS qS1 ?_
  refine V_aload_n dX2_reduce_129 rfl ?_
  refine V_lload_n dX2_reduce_130 rfl ?_
  refine V_lconst (v := 0) dX2_reduce_131 (by decide) ?_
  refine V_lcmp dX2_reduce_132 ?_
  refine V_if_ne (tgt := 140) dX2_reduce_133 (by decide) (fun c => ?_) (fun c => ?_)
  · replace hF := (if_neg c).symm.trans hF
    refine V_aload_n dX2_reduce_140 rfl ?_
    obtain ⟨y2, hc, hF⟩ := bd hF
    refine V_callV G dX2_reduce_141 kX2_62 (wd_at ht.1) ⟨by decide, rfl⟩ (s_X2_denominatorSize ht G hc (by omega)) rfl (Nat.le_of_ble_eq_true rfl) (fun _ _ _ q => q.elim) ?_
    rintro _ _ ⟨rfl, rfl⟩
    exact V_lv' (w_X2_reduce_L144 ht G hd _ _ _ _ ht hF) (v_all_c rfl (v_all_c rfl v_all_n))
  · replace hF := (if_pos c).symm.trans hF
    refine V_lconst (v := 1) dX2_reduce_136 (by decide) ?_
    refine V_goto (tgt := 144) dX2_reduce_137 (by decide) ?_
    exact V_lv' (w_X2_reduce_L144 ht G hd _ _ _ _ ht hF) (v_all_c rfl (v_all_c rfl v_all_n))
set_option maxRecDepth 100000 in
set_option maxHeartbeats 4000000 in
theorem w_X2_reduce_L55 {l : Launch} {s0 : State} {D : va_G} {a0 : Array Value} {sh : List Sh} {f : Nat} {t : Nat} (ht : isX2 sh t) {r : St} {d : Nat} (G : GC l s0 D a0) (hd : 2 ≤ d + 1) : ∀ (n : Nat) (S : St) (l1 : Int32) (l2 : Int32), F_X2_reduce_L55 sh f t n S l1 l2 = some r → V l s0 D (d + 1) 0 0 mX2_reduce (fun v h => v = none ∧ h = wd s0.heap.size sh r) v_noX 55 [(0, .ref (s0.heap.size + t)), (1, .int l1), (2, .int l2)] [] (wd s0.heap.size sh S) := by
  intro n
  induction n with
  | zero => intro S l1 l2 hF; cases hF
  | succ n ih =>
    intro S l1 l2 hF
    unfold F_X2_reduce_L55 at hF
    refine V_iload_n dX2_reduce_55 rfl ?_
    refine V_bipush (v := 25) dX2_reduce_56 (by decide) ?_
    refine V_icmp_ge (tgt := 110) dX2_reduce_58 (by decide) (fun c => ?_) (fun c => ?_)
    · replace hF := (if_pos c).symm.trans hF
      refine V_aload_n dX2_reduce_110 rfl ?_
      obtain ⟨y1, hc, hF⟩ := bd hF
      refine V_callV G dX2_reduce_111 kX2_54 (wd_at ht.1) ⟨by decide, rfl⟩ (s_X2_numeratorSize ht G hc (by omega)) rfl (Nat.le_of_ble_eq_true rfl) (fun _ _ _ q => q.elim) ?_
      rintro _ _ ⟨rfl, rfl⟩
      refine V_lstore_n dX2_reduce_114 (by decide) ?_
      refine V_aload_n dX2_reduce_115 rfl ?_
      refine V_iload_n dX2_reduce_116 rfl ?_
      refine V_if_eq (tgt := 125) dX2_reduce_117 (by decide) (fun c => ?_) (fun c => ?_)
      · replace hF := (if_pos c).symm.trans hF
        refine V_lload_n dX2_reduce_125 rfl ?_
        exact V_lv' (w_X2_reduce_L126 ht G hd _ _ _ _ ht hF) (v_all_c rfl (v_all_c rfl v_all_n))
      · replace hF := (if_neg c).symm.trans hF
        refine V_lload_n dX2_reduce_120 rfl ?_
        refine V_lneg dX2_reduce_121 ?_
        refine V_goto (tgt := 126) dX2_reduce_122 (by decide) ?_
        exact V_lv' (w_X2_reduce_L126 ht G hd _ _ _ _ ht hF) (v_all_c rfl (v_all_c rfl v_all_n))
    · replace hF := (if_neg c).symm.trans hF
      exact V_lv' (w_X2_reduce_L61 ht G hd ih f _ _ _ hF) (v_all_c rfl (v_all_c rfl (v_all_c rfl v_all_n)))
set_option maxRecDepth 100000 in
set_option maxHeartbeats 4000000 in
theorem w_X2_reduce_L18 {l : Launch} {s0 : State} {D : va_G} {a0 : Array Value} {sh : List Sh} {f : Nat} {t : Nat} (ht : isX2 sh t) {r : St} {d : Nat} (G : GC l s0 D a0) (hd : 2 ≤ d + 1) : ∀ (n : Nat) (S : St) (l1 : Int32) (l2 : Int32), F_X2_reduce_L18 sh f t n S l1 l2 = some r → V l s0 D (d + 1) 0 0 mX2_reduce (fun v h => v = none ∧ h = wd s0.heap.size sh r) v_noX 18 [(0, .ref (s0.heap.size + t)), (1, .int l1), (2, .int l2)] [] (wd s0.heap.size sh S) := by
  intro n
  induction n with
  | zero => intro S l1 l2 hF; cases hF
  | succ n ih =>
    intro S l1 l2 hF
    unfold F_X2_reduce_L18 at hF
    refine V_iload_n dX2_reduce_18 rfl ?_
    refine V_bipush (v := 12) dX2_reduce_19 (by decide) ?_
    refine V_icmp_ge (tgt := 47) dX2_reduce_21 (by decide) (fun c => ?_) (fun c => ?_)
    · replace hF := (if_pos c).symm.trans hF
      refine V_aload_n dX2_reduce_47 rfl ?_
      refine V_iconst (v := 1) dX2_reduce_48 (by decide) ?_
      obtain ⟨y1, hc, hF⟩ := bd hF
      refine V_callV G dX2_reduce_49 kX2_43 (wd_at ht.1) ⟨by decide, rfl⟩ (s_X2_carryOver ht G hc (by omega)) rfl (Nat.le_of_ble_eq_true rfl) (fun _ _ _ q => q.elim) ?_
      rintro _ _ ⟨rfl, rfl⟩
      refine V_pop2 dX2_reduce_52 rfl ?_
      refine V_iconst (v := 0) dX2_reduce_53 (by decide) ?_
      refine V_istore_n dX2_reduce_54 (by decide) ?_
      exact V_lv' (w_X2_reduce_L55 ht G hd f _ _ _ hF) (v_all_c rfl (v_all_c rfl (v_all_c rfl v_all_n)))
    · replace hF := (if_neg c).symm.trans hF
      refine V_iload_n dX2_reduce_24 rfl ?_
      refine V_if_eq (tgt := 47) dX2_reduce_25 (by decide) (fun c => ?_) (fun c => ?_)
      · replace hF := (if_pos c).symm.trans hF
        refine V_aload_n dX2_reduce_47 rfl ?_
        refine V_iconst (v := 1) dX2_reduce_48 (by decide) ?_
        obtain ⟨y2, hc, hF⟩ := bd hF
        refine V_callV G dX2_reduce_49 kX2_43 (wd_at ht.1) ⟨by decide, rfl⟩ (s_X2_carryOver ht G hc (by omega)) rfl (Nat.le_of_ble_eq_true rfl) (fun _ _ _ q => q.elim) ?_
        rintro _ _ ⟨rfl, rfl⟩
        refine V_pop2 dX2_reduce_52 rfl ?_
        refine V_iconst (v := 0) dX2_reduce_53 (by decide) ?_
        refine V_istore_n dX2_reduce_54 (by decide) ?_
        exact V_lv' (w_X2_reduce_L55 ht G hd f _ _ _ hF) (v_all_c rfl (v_all_c rfl (v_all_c rfl v_all_n)))
      · replace hF := (if_neg c).symm.trans hF
        refine V_aload_n dX2_reduce_28 rfl ?_
        refine X_gC G dX2_reduce_29 fX2_13 ht.1 rfl ?_
        refine V_iload_n dX2_reduce_32 rfl ?_
        refine V_aload_n dX2_reduce_33 rfl ?_
        refine X_gC G dX2_reduce_34 fX2_13 ht.1 rfl ?_
        refine V_iload_n dX2_reduce_37 rfl ?_
        obtain ⟨hz, hF⟩ := gv_out hF
        refine X_lald dX2_reduce_38 ht.2.2.1 hz ?_
        refine V_lneg dX2_reduce_39 ?_
        obtain ⟨hz, hF⟩ := gv_out hF
        refine X_last dX2_reduce_40 ht.2.2.1 hz ?_
        obtain ⟨S3, qS3, hF⟩ := bnd_g hF
        refine V_eqS qS3 ?_
        obtain ⟨x4, qx4, hF⟩ := bnd_g hF
        refine B_iinc (v := 1) qx4 dX2_reduce_41 rfl (by decide) (by decide) ?_
        refine V_goto (tgt := 18) dX2_reduce_44 (by decide) ?_
        exact V_lv' (ih _ _ _ hF) (v_all_c rfl (v_all_c rfl (v_all_c rfl v_all_n)))
set_option maxRecDepth 100000 in
set_option maxHeartbeats 4000000 in
theorem s_X2_reduce {l : Launch} {s0 : State} {D : va_G} {a0 : Array Value} {sh : List Sh} {f : Nat} {S : St} {t : Nat} (ht : isX2 sh t) {r : St} (G : GC l s0 D a0) (hF : F_X2_reduce sh f S t = some r) {d : Nat} (hd : 2 ≤ d) : Sp l s0 D d 0 0 mX2_reduce (fun v h => v = none ∧ h = wd s0.heap.size sh r) v_noX [.ref (s0.heap.size + t)] (wd s0.heap.size sh S) := by
  obtain ⟨d, rfl⟩ : ∃ e, d = e + 1 := ⟨d - 1, by omega⟩
  refine Sp.of (by decide +kernel) rfl (Nat.le_of_ble_eq_true rfl) ?_
  unfold F_X2_reduce at hF
  refine V_aload_n dX2_reduce_0 rfl ?_
  refine V_iconst (v := 0) dX2_reduce_1 (by decide) ?_
  obtain ⟨y1, hc, hF⟩ := bd hF
  refine V_callV G dX2_reduce_2 kX2_43 (wd_at ht.1) ⟨by decide, rfl⟩ (s_X2_carryOver ht G hc (by omega)) rfl (Nat.le_of_ble_eq_true rfl) (fun _ _ _ q => q.elim) ?_
  rintro _ _ ⟨rfl, rfl⟩
  refine V_lconst (v := 0) dX2_reduce_5 (by decide) ?_
  refine V_lcmp dX2_reduce_6 ?_
  refine V_if_ge (tgt := 14) dX2_reduce_7 (by decide) (fun c => ?_) (fun c => ?_)
  · replace hF := (if_pos c).symm.trans hF
    refine V_iconst (v := 0) dX2_reduce_14 (by decide) ?_
    refine V_istore_n dX2_reduce_15 (by decide) ?_
    refine V_iconst (v := 0) dX2_reduce_16 (by decide) ?_
    refine V_istore_n dX2_reduce_17 (by decide) ?_
    exact V_lv' (w_X2_reduce_L18 ht G hd f _ _ _ hF) (v_all_c rfl (v_all_c rfl (v_all_c rfl v_all_n)))
  · replace hF := (if_neg c).symm.trans hF
    refine V_iconst (v := 1) dX2_reduce_10 (by decide) ?_
    refine V_goto (tgt := 15) dX2_reduce_11 (by decide) ?_
    refine V_istore_n dX2_reduce_15 (by decide) ?_
    refine V_iconst (v := 0) dX2_reduce_16 (by decide) ?_
    refine V_istore_n dX2_reduce_17 (by decide) ?_
    exact V_lv' (w_X2_reduce_L18 ht G hd f _ _ _ hF) (v_all_c rfl (v_all_c rfl (v_all_c rfl v_all_n)))

