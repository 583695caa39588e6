set_option maxRecDepth 100000 in
set_option maxHeartbeats 4000000 in
theorem s_X12_poled {l : Launch} {s0 : State} {D : va_G} {a0 : Array Value} {sh : List Sh} {f : Nat} {S : St} {t : Nat} (ht : isX12 sh t) {r : Int32 × St} (G : GC l s0 D a0) (hF : F_X12_poled sh f S t = some r) {d : Nat} (hd : 2 ≤ d) : Sp l s0 D d 0 0 mX12_poled (fun v h => v = some (.int r.1) ∧ h = wd s0.heap.size sh r.2) v_noX [.ref (s0.heap.size + t)] (wd s0.heap.size sh S) := by
  obtain ⟨d, rfl⟩ : ∃ e, d = e + 1 := ⟨d - 1, by omega⟩
  refine Sp.of (by decide +kernel) rfl (Nat.le_of_ble_eq_true rfl) ?_
  unfold F_X12_poled at hF
  refine V_aload_n dX12_poled_0 rfl ?_
  refine V_iconst (v := 5) dX12_poled_1 (by decide) ?_
  obtain ⟨y1, hc, hF⟩ := bd hF
  refine V_callV G dX12_poled_2 kX12_548 (wd_at ht.1) ⟨by decide, rfl⟩ (s_X12_denied ht G hc (by omega)) rfl (Nat.le_of_ble_eq_true rfl) (fun _ _ _ q => q.elim) ?_
  rintro _ _ ⟨rfl, rfl⟩
  obtain ⟨x2, qx2, hF⟩ := bnd_g hF
  refine B_istore_n qx2 dX12_poled_5 (by decide) ?_
  refine V_aload_n dX12_poled_6 rfl ?_
  refine V_aload_n dX12_poled_7 rfl ?_
  refine X_gI G dX12_poled_8 fX12_566 ht.1 rfl ?_
  refine X_pI G dX12_poled_11 gX12_13 ht.1 rfl rfl rfl ?_
  obtain ⟨S3, qS3, hF⟩ := bnd_g hF
  refine V_eqS qS3 ?_
  refine V_iload_n dX12_poled_14 rfl ?_
  obtain ⟨hz, hF⟩ := gv_out hF
  cases hF
  exact V_ireturn dX12_poled_15 rfl (nb_n hz) ⟨rfl, rfl⟩
set_option maxRecDepth 100000 in
set_option maxHeartbeats 4000000 in
theorem w_X12_isEven__L4 {l : Launch} {s0 : State} {D : va_G} {a0 : Array Value} {sh : List Sh} {f : Nat} {S : St} {t : Nat} {p1 : Nat} (ht : isX12 sh t) (hp1 : isX10 sh p1) {r : Int32} {d : Nat} (G : GC l s0 D a0) (hd : 1 ≤ d + 1) : ∀ (n : Nat) (l2 : Int32) (l3 : Int32), F_X12_isEven__L4 sh f S t p1 n l2 l3 = some r → V l s0 D (d + 1) 0 0 mX12_isEven_ (fun v h => v = some (.int r) ∧ h = wd s0.heap.size sh S) v_noX 4 [(1, .ref (s0.heap.size + p1)), (2, .int l2), (3, .int l3)] [] (wd s0.heap.size sh S) := by
  intro n
  induction n with
  | zero => intro l2 l3 hF; cases hF
  | succ n ih =>
    intro l2 l3 hF
    unfold F_X12_isEven__L4 at hF
    refine V_iload_n dX12_isEven__4 rfl ?_
    refine V_aload_n dX12_isEven__5 rfl ?_
    refine X_gI G dX12_isEven__6 fX12_333 hp1.1 rfl ?_
    refine V_icmp_ge (tgt := 27) dX12_isEven__9 (by decide) (fun c => ?_) (fun c => ?_)
    · replace hF := (if_pos c).symm.trans hF
      refine V_iload_n dX12_isEven__27 rfl ?_
      refine V_if_ne (tgt := 35) dX12_isEven__28 (by decide) (fun c => ?_) (fun c => ?_)
      · replace hF := (if_neg c).symm.trans hF
        refine V_iconst (v := 0) dX12_isEven__35 (by decide) ?_
        cases hF
        exact V_ireturn dX12_isEven__36 rfl (by decide) ⟨rfl, rfl⟩
      · replace hF := (if_pos c).symm.trans hF
        refine V_iconst (v := 1) dX12_isEven__31 (by decide) ?_
        refine V_goto (tgt := 36) dX12_isEven__32 (by decide) ?_
        cases hF
        exact V_ireturn dX12_isEven__36 rfl (by decide) ⟨rfl, rfl⟩
    · replace hF := (if_neg c).symm.trans hF
      refine V_iload_n dX12_isEven__12 rfl ?_
      refine V_aload_n dX12_isEven__13 rfl ?_
      refine X_gC G dX12_isEven__14 fX12_426 hp1.1 rfl ?_
      refine V_iload_n dX12_isEven__17 rfl ?_
      obtain ⟨hz, hF⟩ := gv_out hF
      refine X_iald dX12_isEven__18 hp1.2.2.1 hz ?_
      refine V_iadd dX12_isEven__19 ?_
      obtain ⟨x1, qx1, hF⟩ := bnd_g hF
      refine B_istore_n qx1 dX12_isEven__20 (by decide) ?_
      obtain ⟨x2, qx2, hF⟩ := bnd_g hF
      refine B_iinc (v := 1) qx2 dX12_isEven__21 rfl (by decide) (by decide) ?_
      refine V_goto (tgt := 4) dX12_isEven__24 (by decide) ?_
      exact V_lv' (ih _ _ hF) (v_all_c rfl (v_all_c rfl (v_all_c rfl v_all_n)))
set_option maxRecDepth 100000 in
set_option maxHeartbeats 4000000 in
theorem s_X12_isEven_ {l : Launch} {s0 : State} {D : va_G} {a0 : Array Value} {sh : List Sh} {f : Nat} {S : St} {t : Nat} {p1 : Nat} (ht : isX12 sh t) (hp1 : isX10 sh p1) {r : Int32} (G : GC l s0 D a0) (hF : F_X12_isEven_ sh f S t p1 = some r) {d : Nat} (hd : 1 ≤ d) : Sp l s0 D d 0 0 mX12_isEven_ (fun v h => v = some (.int r) ∧ h = wd s0.heap.size sh S) v_noX [.ref (s0.heap.size + t), .ref (s0.heap.size + p1)] (wd s0.heap.size sh S) := by
  obtain ⟨d, rfl⟩ : ∃ e, d = e + 1 := ⟨d - 1, by omega⟩
  refine Sp.of (by decide +kernel) rfl (Nat.le_of_ble_eq_true rfl) ?_
  unfold F_X12_isEven_ at hF
  refine V_iconst (v := 0) dX12_isEven__0 (by decide) ?_
  refine V_istore_n dX12_isEven__1 (by decide) ?_
  refine V_iconst (v := 0) dX12_isEven__2 (by decide) ?_
  refine V_istore_n dX12_isEven__3 (by decide) ?_
  exact V_lv' (w_X12_isEven__L4 ht hp1 G hd f _ _ hF) (v_all_c rfl (v_all_c rfl (v_all_c rfl v_all_n)))
set_option maxRecDepth 100000 in
set_option maxHeartbeats 4000000 in
theorem w_X12_tells_L133 {l : Launch} {s0 : State} {D : va_G} {a0 : Array Value} {sh : List Sh} {f : Nat} {t : Nat} {p1 : Int32} {p2 : Int32} {p3 : Int32} {p4 : Int32} (ht : isX12 sh t) {r : Int32 × St} {d : Nat} (G : GC l s0 D a0) (hd : 28 ≤ d + 1) : ∀ (n : Nat) (S : St) (l5 : Int32) (l6 : Int32), F_X12_tells_L133 sh f t p1 p2 p3 p4 n S l5 l6 = some r → V l s0 D (d + 1) 0 0 mX12_tells (fun v h => v = some (.int r.1) ∧ h = wd s0.heap.size sh r.2) v_noX 133 [(0, .ref (s0.heap.size + t)), (1, .int p1), (5, .int l5), (6, .int l6)] [] (wd s0.heap.size sh S) := by
  intro n
  induction n with
  | zero => intro S l5 l6 hF; cases hF
  | succ n ih =>
    intro S l5 l6 hF
    unfold F_X12_tells_L133 at hF
    refine V_iload dX12_tells_133 rfl ?_
    refine V_iconst (v := 4) dX12_tells_135 (by decide) ?_
    refine V_icmp_ge (tgt := 186) dX12_tells_136 (by decide) (fun c => ?_) (fun c => ?_)
    · replace hF := (if_pos c).symm.trans hF
      refine V_aload_n dX12_tells_186 rfl ?_
      obtain ⟨y1, hc, hF⟩ := bd hF
      refine V_callV G dX12_tells_187 kX12_597 (wd_at ht.1) ⟨by decide, rfl⟩ (s_X12_isFound ht G hc (by omega)) rfl (Nat.le_of_ble_eq_true rfl) (fun _ _ _ q => q.elim) ?_
      rintro _ _ ⟨rfl, rfl⟩
      refine V_if_eq (tgt := 200) dX12_tells_190 (by decide) (fun c => ?_) (fun c => ?_)
      · replace hF := (if_pos c).symm.trans hF
        refine V_aload_n dX12_tells_200 rfl ?_
        refine V_bipush (v := 6) dX12_tells_201 (by decide) ?_
        obtain ⟨y2, hc, hF⟩ := bd hF
        refine V_callV G dX12_tells_203 kX12_548 (wd_at ht.1) ⟨by decide, rfl⟩ (s_X12_denied ht G hc (by omega)) rfl (Nat.le_of_ble_eq_true rfl) (fun _ _ _ q => q.elim) ?_
        rintro _ _ ⟨rfl, rfl⟩
        obtain ⟨hz, hF⟩ := gv_out hF
        cases hF
        exact V_ireturn dX12_tells_206 rfl (nb_n hz) ⟨rfl, rfl⟩
      · replace hF := (if_neg c).symm.trans hF
        refine V_aload_n dX12_tells_193 rfl ?_
        obtain ⟨y3, hc, hF⟩ := bd hF
        refine V_callV G dX12_tells_194 kX12_551 (wd_at ht.1) ⟨by decide, rfl⟩ (s_X12_granted ht G hc (by omega)) rfl (Nat.le_of_ble_eq_true rfl) (fun _ _ _ q => q.elim) ?_
        rintro _ _ ⟨rfl, rfl⟩
        refine V_goto (tgt := 206) dX12_tells_197 (by decide) ?_
        obtain ⟨hz, hF⟩ := gv_out hF
        cases hF
        exact V_ireturn dX12_tells_206 rfl (nb_n hz) ⟨rfl, rfl⟩
    · replace hF := (if_neg c).symm.trans hF
      refine V_aload_n dX12_tells_139 rfl ?_
      refine X_gC G dX12_tells_140 fX12_138 ht.1 rfl ?_
      refine V_iload dX12_tells_143 rfl ?_
      refine V_aload_n dX12_tells_145 rfl ?_
      refine V_aload_n dX12_tells_146 rfl ?_
      refine X_gC G dX12_tells_147 fX12_51 ht.1 rfl ?_
      refine V_iload dX12_tells_150 rfl ?_
      obtain ⟨y4, hc, hF⟩ := bd hF
      refine V_callS dX12_tells_152 kX12_576 (s_X12_prime G hc (by omega)) rfl (Nat.le_of_ble_eq_true rfl) (fun _ _ _ q => q.elim) ?_
      rintro _ _ ⟨rfl, rfl⟩
      refine V_iload_n dX12_tells_155 rfl ?_
      refine V_iload dX12_tells_156 rfl ?_
      obtain ⟨y5, hc, hF⟩ := bd hF
      refine V_callV G dX12_tells_158 kX12_593 (wd_at ht.1) ⟨by decide, rfl⟩ (s_X12_restOf ht ht.2.2.2.2.2.2.2.1 G hc (by omega)) rfl (Nat.le_of_ble_eq_true rfl) (fun _ _ _ q => q.elim) ?_
      rintro _ _ ⟨rfl, rfl⟩
      obtain ⟨hz, hF⟩ := gv_out hF
      refine X_iast dX12_tells_161 ht.2.2.2.2.2.2.2.2.2.2.2.2.2.2.2.2.2.2.2.2.2.2.2.2.2.2.2.2.2.2.2.2.1 hz ?_
      obtain ⟨S6, qS6, hF⟩ := bnd_g hF
      refine V_eqS qS6 ?_
      refine V_aload_n dX12_tells_162 rfl ?_
      refine X_gC G dX12_tells_163 fX12_138 ht.1 rfl ?_
      refine V_iload dX12_tells_166 rfl ?_
      obtain ⟨hz, hF⟩ := gv_out hF
      refine X_iald dX12_tells_168 ht.2.2.2.2.2.2.2.2.2.2.2.2.2.2.2.2.2.2.2.2.2.2.2.2.2.2.2.2.2.2.2.2.1 hz ?_
      refine V_iconst (v := -1) dX12_tells_169 (by decide) ?_
      refine V_icmp_ne (tgt := 180) dX12_tells_170 (by decide) (fun c => ?_) (fun c => ?_)
      · replace hF := (if_neg c).symm.trans hF
        obtain ⟨x7, qx7, hF⟩ := bnd_g hF
        refine B_iinc (v := 1) qx7 dX12_tells_180 rfl (by decide) (by decide) ?_
        refine V_goto (tgt := 133) dX12_tells_183 (by decide) ?_
        exact V_lv' (ih _ _ _ hF) (v_all_c rfl (v_all_c rfl (v_all_c rfl (v_all_c rfl v_all_n))))
      · replace hF := (if_pos c).symm.trans hF
        refine V_aload_n dX12_tells_173 rfl ?_
        refine V_bipush (v := 6) dX12_tells_174 (by decide) ?_
        obtain ⟨y8, hc, hF⟩ := bd hF
        refine V_callV G dX12_tells_176 kX12_548 (wd_at ht.1) ⟨by decide, rfl⟩ (s_X12_denied ht G hc (by omega)) rfl (Nat.le_of_ble_eq_true rfl) (fun _ _ _ q => q.elim) ?_
        rintro _ _ ⟨rfl, rfl⟩
        obtain ⟨hz, hF⟩ := gv_out hF
        cases hF
        exact V_ireturn dX12_tells_179 rfl (nb_n hz) ⟨rfl, rfl⟩
set_option maxRecDepth 100000 in
set_option maxHeartbeats 4000000 in
theorem s_X12_tells {l : Launch} {s0 : State} {D : va_G} {a0 : Array Value} {sh : List Sh} {f : Nat} {S : St} {t : Nat} {p1 : Int32} {p2 : Int32} {p3 : Int32} {p4 : Int32} (ht : isX12 sh t) {r : Int32 × St} (G : GC l s0 D a0) (hF : F_X12_tells sh f S t p1 p2 p3 p4 = some r) {d : Nat} (hd : 28 ≤ d) : Sp l s0 D d 0 0 mX12_tells (fun v h => v = some (.int r.1) ∧ h = wd s0.heap.size sh r.2) v_noX [.ref (s0.heap.size + t), .int p1, .int p2, .int p3, .int p4] (wd s0.heap.size sh S) := by
  obtain ⟨d, rfl⟩ : ∃ e, d = e + 1 := ⟨d - 1, by omega⟩
  refine Sp.of (by decide +kernel) rfl (Nat.le_of_ble_eq_true rfl) ?_
  unfold F_X12_tells at hF
  refine V_aload_n dX12_tells_0 rfl ?_
  refine X_gI G dX12_tells_1 fX12_315 ht.1 rfl ?_
  refine V_if_ne (tgt := 13) dX12_tells_4 (by decide) (fun c => ?_) (fun c => ?_)
  · replace hF := (if_neg c).symm.trans hF
    refine V_iload_n dX12_tells_13 rfl ?_
    refine V_iload dX12_tells_14 rfl ?_
    refine V_iconst (v := 3) dX12_tells_16 (by decide) ?_
    obtain ⟨y1, hc, hF⟩ := bd hF
    refine V_callS dX12_tells_17 kX12_242 (s_X12_in G hc (by omega)) rfl (Nat.le_of_ble_eq_true rfl) (fun _ _ _ q => q.elim) ?_
    rintro _ _ ⟨rfl, rfl⟩
    refine V_if_ne (tgt := 29) dX12_tells_20 (by decide) (fun c => ?_) (fun c => ?_)
    · replace hF := (if_neg c).symm.trans hF
      refine V_aload_n dX12_tells_29 rfl ?_
      refine V_aload_n dX12_tells_30 rfl ?_
      refine X_gC G dX12_tells_31 fX12_51 ht.1 rfl ?_
      obtain ⟨y2, hc, hF⟩ := bd hF
      refine V_callV G dX12_tells_34 kX12_428 (wd_at ht.1) ⟨by decide, rfl⟩ (s_X12_copiesEnds ht ht.2.2.2.2.2.2.2.1 G hc (by omega)) rfl (Nat.le_of_ble_eq_true rfl) (fun _ _ _ q => q.elim) ?_
      rintro _ _ ⟨rfl, rfl⟩
      refine V_aload_n dX12_tells_37 rfl ?_
      refine V_aload_n dX12_tells_38 rfl ?_
      refine X_gC G dX12_tells_39 fX12_51 ht.1 rfl ?_
      obtain ⟨y3, hc, hF⟩ := bd hF
      refine V_callV G dX12_tells_42 kX12_432 (wd_at ht.1) ⟨by decide, rfl⟩ (s_X12_isDrawn ht ht.2.2.2.2.2.2.2.1 G hc (by omega)) rfl (Nat.le_of_ble_eq_true rfl) (fun _ _ _ q => q.elim) ?_
      rintro _ _ ⟨rfl, rfl⟩
      refine V_if_ne (tgt := 55) dX12_tells_45 (by decide) (fun c => ?_) (fun c => ?_)
      · replace hF := (if_neg c).symm.trans hF
        refine V_aload_n dX12_tells_55 rfl ?_
        refine V_aload_n dX12_tells_56 rfl ?_
        refine X_gC G dX12_tells_57 fX12_51 ht.1 rfl ?_
        obtain ⟨y4, hc, hF⟩ := bd hF
        refine V_callV G dX12_tells_60 kX12_585 (wd_at ht.1) ⟨by decide, rfl⟩ (s_X12_isEven_ ht ht.2.2.2.2.2.2.2.1 G hc (by omega)) rfl (Nat.le_of_ble_eq_true rfl) (fun _ _ _ q => q.elim) ?_
        rintro _ _ ⟨rfl, rfl⟩
        refine V_if_ne (tgt := 73) dX12_tells_63 (by decide) (fun c => ?_) (fun c => ?_)
        · replace hF := (if_neg c).symm.trans hF
          refine V_aload_n dX12_tells_73 rfl ?_
          refine V_aload_n dX12_tells_74 rfl ?_
          refine X_gC G dX12_tells_75 fX12_51 ht.1 rfl ?_
          refine V_iload_n dX12_tells_78 rfl ?_
          obtain ⟨y5, hc, hF⟩ := bd hF
          refine V_callV G dX12_tells_79 kX12_435 (wd_at ht.1) ⟨by decide, rfl⟩ (s_X12_fills ht ht.2.2.2.2.2.2.2.1 G hc (by omega)) rfl (Nat.le_of_ble_eq_true rfl) (fun _ _ _ q => q.elim) ?_
          rintro _ _ ⟨rfl, rfl⟩
          refine V_if_ne (tgt := 91) dX12_tells_82 (by decide) (fun c => ?_) (fun c => ?_)
          · replace hF := (if_neg c).symm.trans hF
            refine V_iload_n dX12_tells_91 rfl ?_
            refine V_iconst (v := -1) dX12_tells_92 (by decide) ?_
            refine V_icmp_ne (tgt := 100) dX12_tells_93 (by decide) (fun c => ?_) (fun c => ?_)
            · replace hF := (if_neg c).symm.trans hF
              refine V_aload_n dX12_tells_100 rfl ?_
              obtain ⟨b6, hrb6, hF⟩ := bd hF
              obtain ⟨hb6, hF⟩ := gv_in hF
              replace hb6 := ckX9_ok hb6
              refine X_gR G dX12_tells_101 fX12_312 ht.1 rfl hrb6 ?_
              refine X_gC G dX12_tells_104 fX12_257 hb6.1 rfl ?_
              refine V_iload_n dX12_tells_107 rfl ?_
              obtain ⟨hz, hF⟩ := gv_out hF
              refine X_iald dX12_tells_108 hb6.2.2.1 hz ?_
              obtain ⟨x7, qx7, hF⟩ := bnd_g hF
              refine B_istore qx7 dX12_tells_109 (by decide) ?_
              refine V_aload_n dX12_tells_111 rfl ?_
              refine V_aload_n dX12_tells_112 rfl ?_
              refine X_gC G dX12_tells_113 fX12_51 ht.1 rfl ?_
              refine V_iload_n dX12_tells_116 rfl ?_
              refine V_iload dX12_tells_117 rfl ?_
              obtain ⟨y8, hc, hF⟩ := bd hF
              refine V_callV G dX12_tells_119 kX12_587 (wd_at ht.1) ⟨by decide, rfl⟩ (s_X12_hasPole ht ht.2.2.2.2.2.2.2.1 G hc (by omega)) rfl (Nat.le_of_ble_eq_true rfl) (fun _ _ _ q => q.elim) ?_
              rintro _ _ ⟨rfl, rfl⟩
              refine V_if_eq (tgt := 130) dX12_tells_122 (by decide) (fun c => ?_) (fun c => ?_)
              · replace hF := (if_pos c).symm.trans hF
                refine V_iconst (v := 0) dX12_tells_130 (by decide) ?_
                refine V_istore dX12_tells_131 (by decide) ?_
                exact V_lv' (w_X12_tells_L133 ht G hd f _ _ _ hF) (v_all_c rfl (v_all_c rfl (v_all_c rfl (v_all_c rfl v_all_n))))
              · replace hF := (if_neg c).symm.trans hF
                refine V_aload_n dX12_tells_125 rfl ?_
                obtain ⟨y9, hc, hF⟩ := bd hF
                refine V_callV G dX12_tells_126 kX12_590 (wd_at ht.1) ⟨by decide, rfl⟩ (s_X12_poled ht G hc (by omega)) rfl (Nat.le_of_ble_eq_true rfl) (fun _ _ _ q => q.elim) ?_
                rintro _ _ ⟨rfl, rfl⟩
                obtain ⟨hz, hF⟩ := gv_out hF
                cases hF
                exact V_ireturn dX12_tells_129 rfl (nb_n hz) ⟨rfl, rfl⟩
            · replace hF := (if_pos c).symm.trans hF
              refine V_iconst (v := -1) dX12_tells_96 (by decide) ?_
              refine V_goto (tgt := 109) dX12_tells_97 (by decide) ?_
              refine V_istore dX12_tells_109 (by decide) ?_
              refine V_aload_n dX12_tells_111 rfl ?_
              refine V_aload_n dX12_tells_112 rfl ?_
              refine X_gC G dX12_tells_113 fX12_51 ht.1 rfl ?_
              refine V_iload_n dX12_tells_116 rfl ?_
              refine V_iload dX12_tells_117 rfl ?_
              obtain ⟨y10, hc, hF⟩ := bd hF
              refine V_callV G dX12_tells_119 kX12_587 (wd_at ht.1) ⟨by decide, rfl⟩ (s_X12_hasPole ht ht.2.2.2.2.2.2.2.1 G hc (by omega)) rfl (Nat.le_of_ble_eq_true rfl) (fun _ _ _ q => q.elim) ?_
              rintro _ _ ⟨rfl, rfl⟩
              refine V_if_eq (tgt := 130) dX12_tells_122 (by decide) (fun c => ?_) (fun c => ?_)
              · replace hF := (if_pos c).symm.trans hF
                refine V_iconst (v := 0) dX12_tells_130 (by decide) ?_
                refine V_istore dX12_tells_131 (by decide) ?_
                exact V_lv' (w_X12_tells_L133 ht G hd f _ _ _ hF) (v_all_c rfl (v_all_c rfl (v_all_c rfl (v_all_c rfl v_all_n))))
              · replace hF := (if_neg c).symm.trans hF
                refine V_aload_n dX12_tells_125 rfl ?_
                obtain ⟨y11, hc, hF⟩ := bd hF
                refine V_callV G dX12_tells_126 kX12_590 (wd_at ht.1) ⟨by decide, rfl⟩ (s_X12_poled ht G hc (by omega)) rfl (Nat.le_of_ble_eq_true rfl) (fun _ _ _ q => q.elim) ?_
                rintro _ _ ⟨rfl, rfl⟩
                obtain ⟨hz, hF⟩ := gv_out hF
                cases hF
                exact V_ireturn dX12_tells_129 rfl (nb_n hz) ⟨rfl, rfl⟩
          · replace hF := (if_pos c).symm.trans hF
            refine V_aload_n dX12_tells_85 rfl ?_
            refine V_iconst (v := 3) dX12_tells_86 (by decide) ?_
            obtain ⟨y12, hc, hF⟩ := bd hF
            refine V_callV G dX12_tells_87 kX12_548 (wd_at ht.1) ⟨by decide, rfl⟩ (s_X12_denied ht G hc (by omega)) rfl (Nat.le_of_ble_eq_true rfl) (fun _ _ _ q => q.elim) ?_
            rintro _ _ ⟨rfl, rfl⟩
            obtain ⟨hz, hF⟩ := gv_out hF
            cases hF
            exact V_ireturn dX12_tells_90 rfl (nb_n hz) ⟨rfl, rfl⟩
        · replace hF := (if_pos c).symm.trans hF
          refine V_aload_n dX12_tells_66 rfl ?_
          refine V_bipush (v := 8) dX12_tells_67 (by decide) ?_
          obtain ⟨y13, hc, hF⟩ := bd hF
          refine V_callV G dX12_tells_69 kX12_548 (wd_at ht.1) ⟨by decide, rfl⟩ (s_X12_denied ht G hc (by omega)) rfl (Nat.le_of_ble_eq_true rfl) (fun _ _ _ q => q.elim) ?_
          rintro _ _ ⟨rfl, rfl⟩
          obtain ⟨hz, hF⟩ := gv_out hF
          cases hF
          exact V_ireturn dX12_tells_72 rfl (nb_n hz) ⟨rfl, rfl⟩
      · replace hF := (if_pos c).symm.trans hF
        refine V_aload_n dX12_tells_48 rfl ?_
        refine V_bipush (v := 7) dX12_tells_49 (by decide) ?_
        obtain ⟨y14, hc, hF⟩ := bd hF
        refine V_callV G dX12_tells_51 kX12_548 (wd_at ht.1) ⟨by decide, rfl⟩ (s_X12_denied ht G hc (by omega)) rfl (Nat.le_of_ble_eq_true rfl) (fun _ _ _ q => q.elim) ?_
        rintro _ _ ⟨rfl, rfl⟩
        obtain ⟨hz, hF⟩ := gv_out hF
        cases hF
        exact V_ireturn dX12_tells_54 rfl (nb_n hz) ⟨rfl, rfl⟩
    · replace hF := (if_pos c).symm.trans hF
      refine V_aload_n dX12_tells_23 rfl ?_
      refine V_iconst (v := 2) dX12_tells_24 (by decide) ?_
      obtain ⟨y15, hc, hF⟩ := bd hF
      refine V_callV G dX12_tells_25 kX12_548 (wd_at ht.1) ⟨by decide, rfl⟩ (s_X12_denied ht G hc (by omega)) rfl (Nat.le_of_ble_eq_true rfl) (fun _ _ _ q => q.elim) ?_
      rintro _ _ ⟨rfl, rfl⟩
      obtain ⟨hz, hF⟩ := gv_out hF
      cases hF
      exact V_ireturn dX12_tells_28 rfl (nb_n hz) ⟨rfl, rfl⟩
  · replace hF := (if_pos c).symm.trans hF
    refine V_aload_n dX12_tells_7 rfl ?_
    refine V_iconst (v := 1) dX12_tells_8 (by decide) ?_
    obtain ⟨y16, hc, hF⟩ := bd hF
    refine V_callV G dX12_tells_9 kX12_548 (wd_at ht.1) ⟨by decide, rfl⟩ (s_X12_denied ht G hc (by omega)) rfl (Nat.le_of_ble_eq_true rfl) (fun _ _ _ q => q.elim) ?_
    rintro _ _ ⟨rfl, rfl⟩
    obtain ⟨hz, hF⟩ := gv_out hF
    cases hF
    exact V_ireturn dX12_tells_12 rfl (nb_n hz) ⟨rfl, rfl⟩
set_option maxRecDepth 100000 in
set_option maxHeartbeats 4000000 in
theorem s_X12_at {l : Launch} {s0 : State} {D : va_G} {a0 : Array Value} {sh : List Sh} {f : Nat} {S : St} {t : Nat} {p1 : Int32} (ht : isX12 sh t) {r : Int32 × St} (G : GC l s0 D a0) (hF : F_X12_at sh f S t p1 = some r) {d : Nat} (hd : 29 ≤ d) : Sp l s0 D d 0 0 mX12_at (fun v h => v = some (.int r.1) ∧ h = wd s0.heap.size sh r.2) v_noX [.ref (s0.heap.size + t), .int p1] (wd s0.heap.size sh S) := by
  obtain ⟨d, rfl⟩ : ∃ e, d = e + 1 := ⟨d - 1, by omega⟩
  refine Sp.of (by decide +kernel) rfl (Nat.le_of_ble_eq_true rfl) ?_
  unfold F_X12_at at hF
  refine V_aload_n dX12_at_0 rfl ?_
  refine V_iconst (v := 0) dX12_at_1 (by decide) ?_
  refine X_pI G dX12_at_2 gX12_147 ht.1 rfl rfl rfl ?_
  obtain ⟨S1, qS1, hF⟩ := bnd_g hF
  refine V_eqS qS1 ?_
  refine V_aload_n dX12_at_5 rfl ?_
  refine V_iconst (v := -1) dX12_at_6 (by decide) ?_
  refine V_iconst (v := -1) dX12_at_7 (by decide) ?_
  refine V_iload_n dX12_at_8 rfl ?_
  refine V_iconst (v := 1) dX12_at_9 (by decide) ?_
  obtain ⟨y2, hc, hF⟩ := bd hF
  refine V_callV G dX12_at_10 kX12_581 (wd_at ht.1) ⟨by decide, rfl⟩ (s_X12_tells ht G hc (by omega)) rfl (Nat.le_of_ble_eq_true rfl) (fun _ _ _ q => q.elim) ?_
  rintro _ _ ⟨rfl, rfl⟩
  obtain ⟨hz, hF⟩ := gv_out hF
  cases hF
  exact V_ireturn dX12_at_13 rfl (nb_n hz) ⟨rfl, rfl⟩
set_option maxRecDepth 100000 in
set_option maxHeartbeats 4000000 in
theorem w_X12_isSide_L4 {l : Launch} {s0 : State} {D : va_G} {a0 : Array Value} {sh : List Sh} {f : Nat} {S : St} {t : Nat} {p1 : Int32} (ht : isX12 sh t) {r : Int32} {d : Nat} (G : GC l s0 D a0) (hd : 1 ≤ d + 1) : ∀ (n : Nat) (l2 : Int32) (l3 : Int32), F_X12_isSide_L4 sh f S t p1 n l2 l3 = some r → V l s0 D (d + 1) 0 0 mX12_isSide (fun v h => v = some (.int r) ∧ h = wd s0.heap.size sh S) v_noX 4 [(0, .ref (s0.heap.size + t)), (1, .int p1), (2, .int l2), (3, .int l3)] [] (wd s0.heap.size sh S) := by
  intro n
  induction n with
  | zero => intro l2 l3 hF; cases hF
  | succ n ih =>
    intro l2 l3 hF
    unfold F_X12_isSide_L4 at hF
    refine V_iload_n dX12_isSide_4 rfl ?_
    refine V_aload_n dX12_isSide_5 rfl ?_
    refine X_gI G dX12_isSide_6 fX12_315 ht.1 rfl ?_
    refine V_icmp_ge (tgt := 26) dX12_isSide_9 (by decide) (fun c => ?_) (fun c => ?_)
    · replace hF := (if_pos c).symm.trans hF
      refine V_aload_n dX12_isSide_26 rfl ?_
      refine X_gI G dX12_isSide_27 fX12_315 ht.1 rfl ?_
      refine V_if_le (tgt := 73) dX12_isSide_30 (by decide) (fun c => ?_) (fun c => ?_)
      · replace hF := (if_pos c).symm.trans hF
        refine V_iconst (v := 0) dX12_isSide_73 (by decide) ?_
        cases hF
        exact V_ireturn dX12_isSide_74 rfl (by decide) ⟨rfl, rfl⟩
      · replace hF := (if_neg c).symm.trans hF
        refine V_iload_n dX12_isSide_33 rfl ?_
        refine V_if_le (tgt := 73) dX12_isSide_34 (by decide) (fun c => ?_) (fun c => ?_)
        · replace hF := (if_pos c).symm.trans hF
          refine V_iconst (v := 0) dX12_isSide_73 (by decide) ?_
          cases hF
          exact V_ireturn dX12_isSide_74 rfl (by decide) ⟨rfl, rfl⟩
        · replace hF := (if_neg c).symm.trans hF
          refine V_iload_n dX12_isSide_37 rfl ?_
          refine V_iconst (v := 1) dX12_isSide_38 (by decide) ?_
          refine V_aload_n dX12_isSide_39 rfl ?_
          refine X_gI G dX12_isSide_40 fX12_315 ht.1 rfl ?_
          refine V_ishl dX12_isSide_43 ?_
          refine V_icmp_ge (tgt := 73) dX12_isSide_44 (by decide) (fun c => ?_) (fun c => ?_)
          · replace hF := (if_pos c).symm.trans hF
            refine V_iconst (v := 0) dX12_isSide_73 (by decide) ?_
            cases hF
            exact V_ireturn dX12_isSide_74 rfl (by decide) ⟨rfl, rfl⟩
          · replace hF := (if_neg c).symm.trans hF
            refine V_iload_n dX12_isSide_47 rfl ?_
            refine V_iconst (v := 1) dX12_isSide_48 (by decide) ?_
            refine V_iand dX12_isSide_49 ?_
            refine V_iconst (v := 1) dX12_isSide_50 (by decide) ?_
            refine V_icmp_ne (tgt := 73) dX12_isSide_51 (by decide) (fun c => ?_) (fun c => ?_)
            · replace hF := (if_neg c).symm.trans hF
              refine V_iconst (v := 0) dX12_isSide_73 (by decide) ?_
              cases hF
              exact V_ireturn dX12_isSide_74 rfl (by decide) ⟨rfl, rfl⟩
            · replace hF := (if_pos c).symm.trans hF
              refine V_iload_n dX12_isSide_54 rfl ?_
              refine V_iconst (v := 1) dX12_isSide_55 (by decide) ?_
              refine V_icmp_le (tgt := 73) dX12_isSide_56 (by decide) (fun c => ?_) (fun c => ?_)
              · replace hF := (if_pos c).symm.trans hF
                refine V_iconst (v := 0) dX12_isSide_73 (by decide) ?_
                cases hF
                exact V_ireturn dX12_isSide_74 rfl (by decide) ⟨rfl, rfl⟩
              · replace hF := (if_neg c).symm.trans hF
                refine V_aload_n dX12_isSide_59 rfl ?_
                refine X_gI G dX12_isSide_60 fX12_315 ht.1 rfl ?_
                refine V_iload_n dX12_isSide_63 rfl ?_
                refine V_isub dX12_isSide_64 ?_
                refine V_iconst (v := 1) dX12_isSide_65 (by decide) ?_
                refine V_icmp_le (tgt := 73) dX12_isSide_66 (by decide) (fun c => ?_) (fun c => ?_)
                · replace hF := (if_pos c).symm.trans hF
                  refine V_iconst (v := 0) dX12_isSide_73 (by decide) ?_
                  cases hF
                  exact V_ireturn dX12_isSide_74 rfl (by decide) ⟨rfl, rfl⟩
                · replace hF := (if_neg c).symm.trans hF
                  refine V_iconst (v := 1) dX12_isSide_69 (by decide) ?_
                  refine V_goto (tgt := 74) dX12_isSide_70 (by decide) ?_
                  cases hF
                  exact V_ireturn dX12_isSide_74 rfl (by decide) ⟨rfl, rfl⟩
    · replace hF := (if_neg c).symm.trans hF
      refine V_iload_n dX12_isSide_12 rfl ?_
      refine V_iload_n dX12_isSide_13 rfl ?_
      refine V_iload_n dX12_isSide_14 rfl ?_
      refine V_ishr dX12_isSide_15 ?_
      refine V_iconst (v := 1) dX12_isSide_16 (by decide) ?_
      refine V_iand dX12_isSide_17 ?_
      refine V_iadd dX12_isSide_18 ?_
      obtain ⟨x1, qx1, hF⟩ := bnd_g hF
      refine B_istore_n qx1 dX12_isSide_19 (by decide) ?_
      obtain ⟨x2, qx2, hF⟩ := bnd_g hF
      refine B_iinc (v := 1) qx2 dX12_isSide_20 rfl (by decide) (by decide) ?_
      refine V_goto (tgt := 4) dX12_isSide_23 (by decide) ?_
      exact V_lv' (ih _ _ hF) (v_all_c rfl (v_all_c rfl (v_all_c rfl (v_all_c rfl v_all_n))))
set_option maxRecDepth 100000 in
set_option maxHeartbeats 4000000 in
theorem s_X12_isSide {l : Launch} {s0 : State} {D : va_G} {a0 : Array Value} {sh : List Sh} {f : Nat} {S : St} {t : Nat} {p1 : Int32} (ht : isX12 sh t) {r : Int32} (G : GC l s0 D a0) (hF : F_X12_isSide sh f S t p1 = some r) {d : Nat} (hd : 1 ≤ d) : Sp l s0 D d 0 0 mX12_isSide (fun v h => v = some (.int r) ∧ h = wd s0.heap.size sh S) v_noX [.ref (s0.heap.size + t), .int p1] (wd s0.heap.size sh S) := by
  obtain ⟨d, rfl⟩ : ∃ e, d = e + 1 := ⟨d - 1, by omega⟩
  refine Sp.of (by decide +kernel) rfl (Nat.le_of_ble_eq_true rfl) ?_
  unfold F_X12_isSide at hF
  refine V_iconst (v := 0) dX12_isSide_0 (by decide) ?_
  refine V_istore_n dX12_isSide_1 (by decide) ?_
  refine V_iconst (v := 0) dX12_isSide_2 (by decide) ?_
  refine V_istore_n dX12_isSide_3 (by decide) ?_
  exact V_lv' (w_X12_isSide_L4 ht G hd f _ _ hF) (v_all_c rfl (v_all_c rfl (v_all_c rfl (v_all_c rfl v_all_n))))
set_option maxRecDepth 100000 in
set_option maxHeartbeats 4000000 in
theorem w_X12_parts_L11 {l : Launch} {s0 : State} {D : va_G} {a0 : Array Value} {sh : List Sh} {f : Nat} {t : Nat} {p1 : Nat} {p2 : Int32} {p3 : Int32} (ht : isX12 sh t) (hp1 : isX10 sh p1) {r : St} {d : Nat} (G : GC l s0 D a0) (hd : 1 ≤ d + 1) : ∀ (n : Nat) (S : St) (l4 : Int32) (l5 : Int32), F_X12_parts_L11 sh f t p1 p2 p3 n S l4 l5 = some r → V l s0 D (d + 1) 0 0 mX12_parts (fun v h => v = none ∧ h = wd s0.heap.size sh r) v_noX 11 [(0, .ref (s0.heap.size + t)), (1, .ref (s0.heap.size + p1)), (2, .int p2), (3, .int p3), (4, .int l4), (5, .int l5)] [] (wd s0.heap.size sh S) := by
  intro n
  induction n with
  | zero => intro S l4 l5 hF; cases hF
  | succ n ih =>
    intro S l4 l5 hF
    unfold F_X12_parts_L11 at hF
    refine V_iload dX12_parts_11 rfl ?_
    refine V_aload_n dX12_parts_13 rfl ?_
    refine X_gI G dX12_parts_14 fX12_315 ht.1 rfl ?_
    refine V_icmp_ge (tgt := 92) dX12_parts_17 (by decide) (fun c => ?_) (fun c => ?_)
    · replace hF := (if_pos c).symm.trans hF
      refine V_aload_n dX12_parts_92 rfl ?_
      refine X_gC G dX12_parts_93 fX12_334 hp1.1 rfl ?_
      refine V_aload_n dX12_parts_96 rfl ?_
      refine X_gI G dX12_parts_97 fX12_333 hp1.1 rfl ?_
      refine V_iload_n dX12_parts_100 rfl ?_
      obtain ⟨hz, hF⟩ := gv_out hF
      refine X_iast dX12_parts_101 hp1.2.1 hz ?_
      obtain ⟨S1, qS1, hF⟩ := bnd_g hF
      refine V_eqS qS1 ?_
      refine V_aload_n dX12_parts_102 rfl ?_
      refine X_gC G dX12_parts_103 fX12_426 hp1.1 rfl ?_
      refine V_aload_n dX12_parts_106 rfl ?_
      refine X_gI G dX12_parts_107 fX12_333 hp1.1 rfl ?_
      refine V_iload dX12_parts_110 rfl ?_
      refine V_ineg dX12_parts_112 ?_
      obtain ⟨hz, hF⟩ := gv_out hF
      refine X_iast dX12_parts_113 hp1.2.2.1 hz ?_
      obtain ⟨S2, qS2, hF⟩ := bnd_g hF
      refine V_eqS qS2 ?_
      refine V_aload_n dX12_parts_114 rfl ?_
      refine V_dup dX12_parts_115 rfl ?_
      refine X_gI G dX12_parts_116 fX12_333 hp1.1 rfl ?_
      refine V_iconst (v := 1) dX12_parts_119 (by decide) ?_
      refine V_iadd dX12_parts_120 ?_
      refine X_pI G dX12_parts_121 gX12_333 hp1.1 rfl rfl rfl ?_
      obtain ⟨S3, qS3, hF⟩ := bnd_g hF
      refine V_eqS qS3 ?_
      cases hF
      exact V_return dX12_parts_124 rfl ⟨rfl, rfl⟩
    · replace hF := (if_neg c).symm.trans hF
      refine V_iload_n dX12_parts_20 rfl ?_
      refine V_iload dX12_parts_21 rfl ?_
      refine V_ishr dX12_parts_23 ?_
      refine V_iconst (v := 1) dX12_parts_24 (by decide) ?_
      refine V_iand dX12_parts_25 ?_
      refine V_if_ne (tgt := 32) dX12_parts_26 (by decide) (fun c => ?_) (fun c => ?_)
      · replace hF := (if_neg c).symm.trans hF
        refine V_aload_n dX12_parts_32 rfl ?_
        refine X_gC G dX12_parts_33 fX12_334 hp1.1 rfl ?_
        refine V_aload_n dX12_parts_36 rfl ?_
        refine X_gI G dX12_parts_37 fX12_333 hp1.1 rfl ?_
        refine V_aload_n dX12_parts_40 rfl ?_
        refine X_gC G dX12_parts_41 fX12_34 ht.1 rfl ?_
        refine V_iload dX12_parts_44 rfl ?_
        obtain ⟨hz, hF⟩ := gv_out hF
        refine X_iald dX12_parts_46 ht.2.2.2.1 hz ?_
        obtain ⟨hz, hF⟩ := gv_out hF
        refine X_iast dX12_parts_47 hp1.2.1 hz ?_
        obtain ⟨S4, qS4, hF⟩ := bnd_g hF
        refine V_eqS qS4 ?_
        refine V_aload_n dX12_parts_48 rfl ?_
        refine X_gC G dX12_parts_49 fX12_426 hp1.1 rfl ?_
        refine V_aload_n dX12_parts_52 rfl ?_
        refine X_gI G dX12_parts_53 fX12_333 hp1.1 rfl ?_
        refine V_aload_n dX12_parts_56 rfl ?_
        refine X_gC G dX12_parts_57 fX12_38 ht.1 rfl ?_
        refine V_iload dX12_parts_60 rfl ?_
        obtain ⟨hz, hF⟩ := gv_out hF
        refine X_iald dX12_parts_62 ht.2.2.2.2.1 hz ?_
        obtain ⟨hz, hF⟩ := gv_out hF
        refine X_iast dX12_parts_63 hp1.2.2.1 hz ?_
        obtain ⟨S5, qS5, hF⟩ := bnd_g hF
        refine V_eqS qS5 ?_
        refine V_iload dX12_parts_64 rfl ?_
        refine V_aload_n dX12_parts_66 rfl ?_
        refine X_gC G dX12_parts_67 fX12_38 ht.1 rfl ?_
        refine V_iload dX12_parts_70 rfl ?_
        obtain ⟨hz, hF⟩ := gv_out hF
        refine X_iald dX12_parts_72 ht.2.2.2.2.1 hz ?_
        refine V_iadd dX12_parts_73 ?_
        obtain ⟨x6, qx6, hF⟩ := bnd_g hF
        refine B_istore qx6 dX12_parts_74 (by decide) ?_
        refine V_aload_n dX12_parts_76 rfl ?_
        refine V_dup dX12_parts_77 rfl ?_
        refine X_gI G dX12_parts_78 fX12_333 hp1.1 rfl ?_
        refine V_iconst (v := 1) dX12_parts_81 (by decide) ?_
        refine V_iadd dX12_parts_82 ?_
        refine X_pI G dX12_parts_83 gX12_333 hp1.1 rfl rfl rfl ?_
        obtain ⟨S7, qS7, hF⟩ := bnd_g hF
        refine V_eqS qS7 ?_
        obtain ⟨x8, qx8, hF⟩ := bnd_g hF
        refine B_iinc (v := 1) qx8 dX12_parts_86 rfl (by decide) (by decide) ?_
        refine V_goto (tgt := 11) dX12_parts_89 (by decide) ?_
        exact V_lv' (ih _ _ _ hF) (v_all_c rfl (v_all_c rfl (v_all_c rfl (v_all_c rfl (v_all_c rfl (v_all_c rfl v_all_n))))))
      · replace hF := (if_pos c).symm.trans hF
        refine V_goto (tgt := 86) dX12_parts_29 (by decide) ?_
        obtain ⟨x9, qx9, hF⟩ := bnd_g hF
        refine B_iinc (v := 1) qx9 dX12_parts_86 rfl (by decide) (by decide) ?_
        refine V_goto (tgt := 11) dX12_parts_89 (by decide) ?_
        exact V_lv' (ih _ _ _ hF) (v_all_c rfl (v_all_c rfl (v_all_c rfl (v_all_c rfl (v_all_c rfl (v_all_c rfl v_all_n))))))
set_option maxRecDepth 100000 in
set_option maxHeartbeats 4000000 in
theorem s_X12_parts {l : Launch} {s0 : State} {D : va_G} {a0 : Array Value} {sh : List Sh} {f : Nat} {S : St} {t : Nat} {p1 : Nat} {p2 : Int32} {p3 : Int32} (ht : isX12 sh t) (hp1 : isX10 sh p1) {r : St} (G : GC l s0 D a0) (hF : F_X12_parts sh f S t p1 p2 p3 = some r) {d : Nat} (hd : 1 ≤ d) : Sp l s0 D d 0 0 mX12_parts (fun v h => v = none ∧ h = wd s0.heap.size sh r) v_noX [.ref (s0.heap.size + t), .ref (s0.heap.size + p1), .int p2, .int p3] (wd s0.heap.size sh S) := by
  obtain ⟨d, rfl⟩ : ∃ e, d = e + 1 := ⟨d - 1, by omega⟩
  refine Sp.of (by decide +kernel) rfl (Nat.le_of_ble_eq_true rfl) ?_
  unfold F_X12_parts at hF
  refine V_aload_n dX12_parts_0 rfl ?_
  refine V_iconst (v := 0) dX12_parts_1 (by decide) ?_
  refine X_pI G dX12_parts_2 gX12_333 hp1.1 rfl rfl rfl ?_
  obtain ⟨S1, qS1, hF⟩ := bnd_g hF
  refine V_eqS qS1 ?_
  refine V_iconst (v := 0) dX12_parts_5 (by decide) ?_
  refine V_istore dX12_parts_6 (by decide) ?_
  refine V_iconst (v := 0) dX12_parts_8 (by decide) ?_
  refine V_istore dX12_parts_9 (by decide) ?_
  exact V_lv' (w_X12_parts_L11 ht hp1 G hd f _ _ _ hF) (v_all_c rfl (v_all_c rfl (v_all_c rfl (v_all_c rfl (v_all_c rfl (v_all_c rfl v_all_n))))))
set_option maxRecDepth 100000 in
set_option maxHeartbeats 4000000 in
theorem w_X12_parted_L246 {l : Launch} {s0 : State} {D : va_G} {a0 : Array Value} {sh : List Sh} {f : Nat} {t : Nat} {p1 : Int32} {p2 : Int32} {p3 : Int32} (ht : isX12 sh t) {r : Int32 × St} {d : Nat} (G : GC l s0 D a0) (hd : 28 ≤ d + 1) {k207 : St → Int32 → Option (Int32 × St)} (hk207 : ∀ (S : St) (l6 : Int32), k207 S l6 = some r → V l s0 D (d + 1) 0 0 mX12_parted (fun v h => v = some (.int r.1) ∧ h = wd s0.heap.size sh r.2) v_noX 207 [(0, .ref (s0.heap.size + t)), (3, .int p3), (6, .int l6)] [] (wd s0.heap.size sh S)) : ∀ (S : St) (l6 : Int32) (v0 : Int32), F_X12_parted_L246 sh f t p1 p2 p3 k207 S l6 v0 = some r → V l s0 D (d + 1) 0 0 mX12_parted (fun v h => v = some (.int r.1) ∧ h = wd s0.heap.size sh r.2) v_noX 246 [(0, .ref (s0.heap.size + t)), (3, .int p3), (6, .int l6)] [.int v0] (wd s0.heap.size sh S) := by
  intro S l6 v0 hF
  unfold F_X12_parted_L246 at hF
  refine V_istore dX12_parted_246 (by decide) ?_
  refine V_aload_n dX12_parted_248 rfl ?_
  refine V_aload_n dX12_parted_249 rfl ?_
  refine X_gC G dX12_parted_250 fX12_51 ht.1 rfl ?_
  refine V_iconst (v := -1) dX12_parted_253 (by decide) ?_
  refine V_iconst (v := -1) dX12_parted_254 (by decide) ?_
  obtain ⟨y1, hc, hF⟩ := bd hF
  refine V_callV G dX12_parted_255 kX12_587 (wd_at ht.1) ⟨by decide, rfl⟩ (s_X12_hasPole ht ht.2.2.2.2.2.2.2.1 G hc (by omega)) rfl (Nat.le_of_ble_eq_true rfl) (fun _ _ _ q => q.elim) ?_
  rintro _ _ ⟨rfl, rfl⟩
  refine V_if_ne (tgt := 274) dX12_parted_258 (by decide) (fun c => ?_) (fun c => ?_)
  · replace hF := (if_neg c).symm.trans hF
    refine V_aload_n dX12_parted_274 rfl ?_
    obtain ⟨y2, hc, hF⟩ := bd hF
    refine V_callV G dX12_parted_275 kX12_590 (wd_at ht.1) ⟨by decide, rfl⟩ (s_X12_poled ht G hc (by omega)) rfl (Nat.le_of_ble_eq_true rfl) (fun _ _ _ q => q.elim) ?_
    rintro _ _ ⟨rfl, rfl⟩
    obtain ⟨hz, hF⟩ := gv_out hF
    cases hF
    exact V_ireturn dX12_parted_278 rfl (nb_n hz) ⟨rfl, rfl⟩
  · replace hF := (if_pos c).symm.trans hF
    refine V_aload_n dX12_parted_261 rfl ?_
    refine V_aload_n dX12_parted_262 rfl ?_
    refine X_gC G dX12_parted_263 fX12_54 ht.1 rfl ?_
    refine V_iconst (v := -1) dX12_parted_266 (by decide) ?_
    refine V_iconst (v := -1) dX12_parted_267 (by decide) ?_
    obtain ⟨y3, hc, hF⟩ := bd hF
    refine V_callV G dX12_parted_268 kX12_587 (wd_at ht.1) ⟨by decide, rfl⟩ (s_X12_hasPole ht ht.2.2.2.2.2.2.2.2.1 G hc (by omega)) rfl (Nat.le_of_ble_eq_true rfl) (fun _ _ _ q => q.elim) ?_
    rintro _ _ ⟨rfl, rfl⟩
    refine V_if_eq (tgt := 279) dX12_parted_271 (by decide) (fun c => ?_) (fun c => ?_)
    · replace hF := (if_pos c).symm.trans hF
      obtain ⟨x4, qx4, hF⟩ := bnd_g hF
      refine B_iinc (v := 1) qx4 dX12_parted_279 rfl (by decide) (by decide) ?_
      refine V_goto (tgt := 207) dX12_parted_282 (by decide) ?_
      exact V_lv' (hk207 _ _ hF) (v_all_c rfl (v_all_c rfl (v_all_c rfl v_all_n)))
    · replace hF := (if_neg c).symm.trans hF
      refine V_aload_n dX12_parted_274 rfl ?_
      obtain ⟨y5, hc, hF⟩ := bd hF
      refine V_callV G dX12_parted_275 kX12_590 (wd_at ht.1) ⟨by decide, rfl⟩ (s_X12_poled ht G hc (by omega)) rfl (Nat.le_of_ble_eq_true rfl) (fun _ _ _ q => q.elim) ?_
      rintro _ _ ⟨rfl, rfl⟩
      obtain ⟨hz, hF⟩ := gv_out hF
      cases hF
      exact V_ireturn dX12_parted_278 rfl (nb_n hz) ⟨rfl, rfl⟩
set_option maxRecDepth 100000 in
set_option maxHeartbeats 4000000 in
theorem w_X12_parted_L245 {l : Launch} {s0 : State} {D : va_G} {a0 : Array Value} {sh : List Sh} {f : Nat} {t : Nat} {p1 : Int32} {p2 : Int32} {p3 : Int32} (ht : isX12 sh t) {r : Int32 × St} {d : Nat} (G : GC l s0 D a0) (hd : 28 ≤ d + 1) {k207 : St → Int32 → Option (Int32 × St)} (hk207 : ∀ (S : St) (l6 : Int32), k207 S l6 = some r → V l s0 D (d + 1) 0 0 mX12_parted (fun v h => v = some (.int r.1) ∧ h = wd s0.heap.size sh r.2) v_noX 207 [(0, .ref (s0.heap.size + t)), (3, .int p3), (6, .int l6)] [] (wd s0.heap.size sh S)) : ∀ (S : St) (l6 : Int32), F_X12_parted_L245 sh f t p1 p2 p3 k207 S l6 = some r → V l s0 D (d + 1) 0 0 mX12_parted (fun v h => v = some (.int r.1) ∧ h = wd s0.heap.size sh r.2) v_noX 245 [(0, .ref (s0.heap.size + t)), (3, .int p3), (6, .int l6)] [] (wd s0.heap.size sh S) := by
  intro S l6 hF
  unfold F_X12_parted_L245 at hF
  refine V_iconst (v := 0) dX12_parted_245 (by decide) ?_
  exact V_lv' (w_X12_parted_L246 ht G hd hk207 _ _ _ hF) (v_all_c rfl (v_all_c rfl (v_all_c rfl v_all_n)))
set_option maxRecDepth 100000 in
set_option maxHeartbeats 4000000 in
theorem w_X12_parted_L420 {l : Launch} {s0 : State} {D : va_G} {a0 : Array Value} {sh : List Sh} {f : Nat} {t : Nat} {p1 : Int32} {p2 : Int32} {p3 : Int32} (ht : isX12 sh t) {r : Int32 × St} {d : Nat} (G : GC l s0 D a0) (hd : 28 ≤ d + 1) {k358 : St → Int32 → Int32 → Int32 → Option (Int32 × St)} (hk358 : ∀ (S : St) (l6 : Int32) (l7 : Int32) (l9 : Int32), k358 S l6 l7 l9 = some r → V l s0 D (d + 1) 0 0 mX12_parted (fun v h => v = some (.int r.1) ∧ h = wd s0.heap.size sh r.2) v_noX 358 [(0, .ref (s0.heap.size + t)), (3, .int p3), (6, .int l6), (7, .int l7), (9, .int l9)] [] (wd s0.heap.size sh S)) : ∀ (S : St) (l7 : Int32) (l9 : Int32) (l10 : Int32) (l11 : Int32) (v0 : Int32), F_X12_parted_L420 sh f t p1 p2 p3 k358 S l7 l9 l10 l11 v0 = some r → V l s0 D (d + 1) 0 0 mX12_parted (fun v h => v = some (.int r.1) ∧ h = wd s0.heap.size sh r.2) v_noX 420 [(0, .ref (s0.heap.size + t)), (3, .int p3), (7, .int l7), (9, .int l9), (10, .int l10), (11, .int l11)] [.int v0] (wd s0.heap.size sh S) := by
  intro S l7 l9 l10 l11 v0 hF
  unfold F_X12_parted_L420 at hF
  refine V_istore dX12_parted_420 (by decide) ?_
  refine V_aload_n dX12_parted_422 rfl ?_
  refine X_gC G dX12_parted_423 fX12_138 ht.1 rfl ?_
  refine V_iload dX12_parted_426 rfl ?_
  refine V_aload_n dX12_parted_428 rfl ?_
  refine X_gC G dX12_parted_429 fX12_138 ht.1 rfl ?_
  refine V_iload dX12_parted_432 rfl ?_
  obtain ⟨hz, hF⟩ := gv_out hF
  refine X_iald dX12_parted_434 ht.2.2.2.2.2.2.2.2.2.2.2.2.2.2.2.2.2.2.2.2.2.2.2.2.2.2.2.2.2.2.2.2.1 hz ?_
  refine V_i2l dX12_parted_435 ?_
  refine V_iload dX12_parted_436 rfl ?_
  refine V_i2l dX12_parted_438 ?_
  refine V_iload dX12_parted_439 rfl ?_
  refine V_i2l dX12_parted_441 ?_
  refine V_lmul dX12_parted_442 ?_
  refine V_ladd dX12_parted_443 ?_
  refine V_iload dX12_parted_444 rfl ?_
  obtain ⟨y1, hc, hF⟩ := bd hF
  refine V_callS dX12_parted_446 kX12_576 (s_X12_prime G hc (by omega)) rfl (Nat.le_of_ble_eq_true rfl) (fun _ _ _ q => q.elim) ?_
  rintro _ _ ⟨rfl, rfl⟩
  refine V_i2l dX12_parted_449 ?_
  obtain ⟨hz, hF⟩ := gv_out hF
  refine V_lrem dX12_parted_450 hz ?_
  refine V_l2i dX12_parted_451 ?_
  obtain ⟨hz, hF⟩ := gv_out hF
  refine X_iast dX12_parted_452 ht.2.2.2.2.2.2.2.2.2.2.2.2.2.2.2.2.2.2.2.2.2.2.2.2.2.2.2.2.2.2.2.2.1 hz ?_
  obtain ⟨S2, qS2, hF⟩ := bnd_g hF
  refine V_eqS qS2 ?_
  obtain ⟨x3, qx3, hF⟩ := bnd_g hF
  refine B_iinc (v := 1) qx3 dX12_parted_453 rfl (by decide) (by decide) ?_
  refine V_goto (tgt := 358) dX12_parted_456 (by decide) ?_
  exact V_lv' (hk358 _ _ _ _ hF) (v_all_c rfl (v_all_c rfl (v_all_c rfl (v_all_c rfl (v_all_c rfl v_all_n)))))
set_option maxRecDepth 100000 in
set_option maxHeartbeats 4000000 in
theorem w_X12_parted_L415 {l : Launch} {s0 : State} {D : va_G} {a0 : Array Value} {sh : List Sh} {f : Nat} {t : Nat} {p1 : Int32} {p2 : Int32} {p3 : Int32} (ht : isX12 sh t) {r : Int32 × St} {d : Nat} (G : GC l s0 D a0) (hd : 28 ≤ d + 1) {k358 : St → Int32 → Int32 → Int32 → Option (Int32 × St)} (hk358 : ∀ (S : St) (l6 : Int32) (l7 : Int32) (l9 : Int32), k358 S l6 l7 l9 = some r → V l s0 D (d + 1) 0 0 mX12_parted (fun v h => v = some (.int r.1) ∧ h = wd s0.heap.size sh r.2) v_noX 358 [(0, .ref (s0.heap.size + t)), (3, .int p3), (6, .int l6), (7, .int l7), (9, .int l9)] [] (wd s0.heap.size sh S)) : ∀ (S : St) (l7 : Int32) (l9 : Int32) (l10 : Int32) (l11 : Int32), F_X12_parted_L415 sh f t p1 p2 p3 k358 S l7 l9 l10 l11 = some r → V l s0 D (d + 1) 0 0 mX12_parted (fun v h => v = some (.int r.1) ∧ h = wd s0.heap.size sh r.2) v_noX 415 [(0, .ref (s0.heap.size + t)), (3, .int p3), (7, .int l7), (9, .int l9), (10, .int l10), (11, .int l11)] [] (wd s0.heap.size sh S) := by
  intro S l7 l9 l10 l11 hF
  unfold F_X12_parted_L415 at hF
  refine V_iconst (v := 1) dX12_parted_415 (by decide) ?_
  refine V_goto (tgt := 420) dX12_parted_416 (by decide) ?_
  exact V_lv' (w_X12_parted_L420 ht G hd hk358 _ _ _ _ _ _ hF) (v_all_c rfl (v_all_c rfl (v_all_c rfl (v_all_c rfl (v_all_c rfl (v_all_c rfl v_all_n))))))
set_option maxRecDepth 100000 in
set_option maxHeartbeats 4000000 in
theorem w_X12_parted_L358 {l : Launch} {s0 : State} {D : va_G} {a0 : Array Value} {sh : List Sh} {f : Nat} {t : Nat} {p1 : Int32} {p2 : Int32} {p3 : Int32} (ht : isX12 sh t) {r : Int32 × St} {d : Nat} (G : GC l s0 D a0) (hd : 28 ≤ d + 1) {k314 : St → Int32 → Int32 → Option (Int32 × St)} (hk314 : ∀ (S : St) (l6 : Int32) (l7 : Int32), k314 S l6 l7 = some r → V l s0 D (d + 1) 0 0 mX12_parted (fun v h => v = some (.int r.1) ∧ h = wd s0.heap.size sh r.2) v_noX 314 [(0, .ref (s0.heap.size + t)), (3, .int p3), (6, .int l6), (7, .int l7)] [] (wd s0.heap.size sh S)) : ∀ (n : Nat) (S : St) (l6 : Int32) (l7 : Int32) (l9 : Int32), F_X12_parted_L358 sh f t p1 p2 p3 k314 n S l6 l7 l9 = some r → V l s0 D (d + 1) 0 0 mX12_parted (fun v h => v = some (.int r.1) ∧ h = wd s0.heap.size sh r.2) v_noX 358 [(0, .ref (s0.heap.size + t)), (3, .int p3), (6, .int l6), (7, .int l7), (9, .int l9)] [] (wd s0.heap.size sh S) := by
  intro n
  induction n with
  | zero => intro S l6 l7 l9 hF; cases hF
  | succ n ih =>
    intro S l6 l7 l9 hF
    unfold F_X12_parted_L358 at hF
    refine V_iload dX12_parted_358 rfl ?_
    refine V_iconst (v := 4) dX12_parted_360 (by decide) ?_
    refine V_icmp_ge (tgt := 459) dX12_parted_361 (by decide) (fun c => ?_) (fun c => ?_)
    · replace hF := (if_pos c).symm.trans hF
      obtain ⟨x1, qx1, hF⟩ := bnd_g hF
      refine B_iinc (v := 1) qx1 dX12_parted_459 rfl (by decide) (by decide) ?_
      refine V_goto (tgt := 314) dX12_parted_462 (by decide) ?_
      exact V_lv' (hk314 _ _ _ hF) (v_all_c rfl (v_all_c rfl (v_all_c rfl (v_all_c rfl v_all_n))))
    · replace hF := (if_neg c).symm.trans hF
      refine V_aload_n dX12_parted_364 rfl ?_
      refine V_aload_n dX12_parted_365 rfl ?_
      refine X_gC G dX12_parted_366 fX12_51 ht.1 rfl ?_
      refine V_iload dX12_parted_369 rfl ?_
      obtain ⟨y2, hc, hF⟩ := bd hF
      refine V_callS dX12_parted_371 kX12_576 (s_X12_prime G hc (by omega)) rfl (Nat.le_of_ble_eq_true rfl) (fun _ _ _ q => q.elim) ?_
      rintro _ _ ⟨rfl, rfl⟩
      refine V_iconst (v := -1) dX12_parted_374 (by decide) ?_
      refine V_iconst (v := -1) dX12_parted_375 (by decide) ?_
      obtain ⟨y3, hc, hF⟩ := bd hF
      refine V_callV G dX12_parted_376 kX12_593 (wd_at ht.1) ⟨by decide, rfl⟩ (s_X12_restOf ht ht.2.2.2.2.2.2.2.1 G hc (by omega)) rfl (Nat.le_of_ble_eq_true rfl) (fun _ _ _ q => q.elim) ?_
      rintro _ _ ⟨rfl, rfl⟩
      obtain ⟨x4, qx4, hF⟩ := bnd_g hF
      refine B_istore qx4 dX12_parted_379 (by decide) ?_
      refine V_aload_n dX12_parted_381 rfl ?_
      refine V_aload_n dX12_parted_382 rfl ?_
      refine X_gC G dX12_parted_383 fX12_54 ht.1 rfl ?_
      refine V_iload dX12_parted_386 rfl ?_
      obtain ⟨y5, hc, hF⟩ := bd hF
      refine V_callS dX12_parted_388 kX12_576 (s_X12_prime G hc (by omega)) rfl (Nat.le_of_ble_eq_true rfl) (fun _ _ _ q => q.elim) ?_
      rintro _ _ ⟨rfl, rfl⟩
      refine V_iconst (v := -1) dX12_parted_391 (by decide) ?_
      refine V_iconst (v := -1) dX12_parted_392 (by decide) ?_
      obtain ⟨y6, hc, hF⟩ := bd hF
      refine V_callV G dX12_parted_393 kX12_593 (wd_at ht.1) ⟨by decide, rfl⟩ (s_X12_restOf ht ht.2.2.2.2.2.2.2.2.1 G hc (by omega)) rfl (Nat.le_of_ble_eq_true rfl) (fun _ _ _ q => q.elim) ?_
      rintro _ _ ⟨rfl, rfl⟩
      obtain ⟨x7, qx7, hF⟩ := bnd_g hF
      refine B_istore qx7 dX12_parted_396 (by decide) ?_
      refine V_iload dX12_parted_398 rfl ?_
      refine V_if_ne (tgt := 415) dX12_parted_400 (by decide) (fun c => ?_) (fun c => ?_)
      · replace hF := (if_neg c).symm.trans hF
        exact V_lv' (w_X12_parted_L415 ht G hd ih _ _ _ _ _ hF) (v_all_c rfl (v_all_c rfl (v_all_c rfl (v_all_c rfl (v_all_c rfl (v_all_c rfl v_all_n))))))
      · replace hF := (if_pos c).symm.trans hF
        refine V_iload dX12_parted_403 rfl ?_
        refine V_iconst (v := -1) dX12_parted_405 (by decide) ?_
        refine V_icmp_eq (tgt := 415) dX12_parted_406 (by decide) (fun c => ?_) (fun c => ?_)
        · replace hF := (if_pos c).symm.trans hF
          exact V_lv' (w_X12_parted_L415 ht G hd ih _ _ _ _ _ hF) (v_all_c rfl (v_all_c rfl (v_all_c rfl (v_all_c rfl (v_all_c rfl (v_all_c rfl v_all_n))))))
        · replace hF := (if_neg c).symm.trans hF
          refine V_iload dX12_parted_409 rfl ?_
          refine V_iconst (v := -1) dX12_parted_411 (by decide) ?_
          refine V_icmp_ne (tgt := 419) dX12_parted_412 (by decide) (fun c => ?_) (fun c => ?_)
          · replace hF := (if_neg c).symm.trans hF
            refine V_iconst (v := 0) dX12_parted_419 (by decide) ?_
            exact V_lv' (w_X12_parted_L420 ht G hd ih _ _ _ _ _ _ hF) (v_all_c rfl (v_all_c rfl (v_all_c rfl (v_all_c rfl (v_all_c rfl (v_all_c rfl v_all_n))))))
          · replace hF := (if_pos c).symm.trans hF
            exact V_lv' (w_X12_parted_L415 ht G hd ih _ _ _ _ _ hF) (v_all_c rfl (v_all_c rfl (v_all_c rfl (v_all_c rfl (v_all_c rfl (v_all_c rfl v_all_n))))))
set_option maxRecDepth 100000 in
set_option maxHeartbeats 4000000 in
theorem w_X12_parted_L314 {l : Launch} {s0 : State} {D : va_G} {a0 : Array Value} {sh : List Sh} {f : Nat} {t : Nat} {p1 : Int32} {p2 : Int32} {p3 : Int32} (ht : isX12 sh t) {r : Int32 × St} {d : Nat} (G : GC l s0 D a0) (hd : 28 ≤ d + 1) : ∀ (n : Nat) (S : St) (l6 : Int32) (l7 : Int32), F_X12_parted_L314 sh f t p1 p2 p3 n S l6 l7 = some r → V l s0 D (d + 1) 0 0 mX12_parted (fun v h => v = some (.int r.1) ∧ h = wd s0.heap.size sh r.2) v_noX 314 [(0, .ref (s0.heap.size + t)), (3, .int p3), (6, .int l6), (7, .int l7)] [] (wd s0.heap.size sh S) := by
  intro n
  induction n with
  | zero => intro S l6 l7 hF; cases hF
  | succ n ih =>
    intro S l6 l7 hF
    unfold F_X12_parted_L314 at hF
    refine V_iload dX12_parted_314 rfl ?_
    refine V_iload_n dX12_parted_316 rfl ?_
    refine V_icmp_ge (tgt := 465) dX12_parted_317 (by decide) (fun c => ?_) (fun c => ?_)
    · replace hF := (if_pos c).symm.trans hF
      refine V_iload dX12_parted_465 rfl ?_
      refine V_if_ne (tgt := 484) dX12_parted_467 (by decide) (fun c => ?_) (fun c => ?_)
      · replace hF := (if_neg c).symm.trans hF
        refine V_aload_n dX12_parted_484 rfl ?_
        refine V_bipush (v := 6) dX12_parted_485 (by decide) ?_
        obtain ⟨y1, hc, hF⟩ := bd hF
        refine V_callV G dX12_parted_487 kX12_548 (wd_at ht.1) ⟨by decide, rfl⟩ (s_X12_denied ht G hc (by omega)) rfl (Nat.le_of_ble_eq_true rfl) (fun _ _ _ q => q.elim) ?_
        rintro _ _ ⟨rfl, rfl⟩
        obtain ⟨hz, hF⟩ := gv_out hF
        cases hF
        exact V_ireturn dX12_parted_490 rfl (nb_n hz) ⟨rfl, rfl⟩
      · replace hF := (if_pos c).symm.trans hF
        refine V_aload_n dX12_parted_470 rfl ?_
        obtain ⟨y2, hc, hF⟩ := bd hF
        refine V_callV G dX12_parted_471 kX12_597 (wd_at ht.1) ⟨by decide, rfl⟩ (s_X12_isFound ht G hc (by omega)) rfl (Nat.le_of_ble_eq_true rfl) (fun _ _ _ q => q.elim) ?_
        rintro _ _ ⟨rfl, rfl⟩
        refine V_if_eq (tgt := 484) dX12_parted_474 (by decide) (fun c => ?_) (fun c => ?_)
        · replace hF := (if_pos c).symm.trans hF
          refine V_aload_n dX12_parted_484 rfl ?_
          refine V_bipush (v := 6) dX12_parted_485 (by decide) ?_
          obtain ⟨y3, hc, hF⟩ := bd hF
          refine V_callV G dX12_parted_487 kX12_548 (wd_at ht.1) ⟨by decide, rfl⟩ (s_X12_denied ht G hc (by omega)) rfl (Nat.le_of_ble_eq_true rfl) (fun _ _ _ q => q.elim) ?_
          rintro _ _ ⟨rfl, rfl⟩
          obtain ⟨hz, hF⟩ := gv_out hF
          cases hF
          exact V_ireturn dX12_parted_490 rfl (nb_n hz) ⟨rfl, rfl⟩
        · replace hF := (if_neg c).symm.trans hF
          refine V_aload_n dX12_parted_477 rfl ?_
          obtain ⟨y4, hc, hF⟩ := bd hF
          refine V_callV G dX12_parted_478 kX12_551 (wd_at ht.1) ⟨by decide, rfl⟩ (s_X12_granted ht G hc (by omega)) rfl (Nat.le_of_ble_eq_true rfl) (fun _ _ _ q => q.elim) ?_
          rintro _ _ ⟨rfl, rfl⟩
          refine V_goto (tgt := 490) dX12_parted_481 (by decide) ?_
          obtain ⟨hz, hF⟩ := gv_out hF
          cases hF
          exact V_ireturn dX12_parted_490 rfl (nb_n hz) ⟨rfl, rfl⟩
    · replace hF := (if_neg c).symm.trans hF
      refine V_aload_n dX12_parted_320 rfl ?_
      refine V_aload_n dX12_parted_321 rfl ?_
      refine X_gC G dX12_parted_322 fX12_51 ht.1 rfl ?_
      refine V_iload dX12_parted_325 rfl ?_
      obtain ⟨y5, hc, hF⟩ := bd hF
      refine V_callV G dX12_parted_327 kX12_435 (wd_at ht.1) ⟨by decide, rfl⟩ (s_X12_fills ht ht.2.2.2.2.2.2.2.1 G hc (by omega)) rfl (Nat.le_of_ble_eq_true rfl) (fun _ _ _ q => q.elim) ?_
      rintro _ _ ⟨rfl, rfl⟩
      refine V_if_eq (tgt := 352) dX12_parted_330 (by decide) (fun c => ?_) (fun c => ?_)
      · replace hF := (if_pos c).symm.trans hF
        refine V_iconst (v := 0) dX12_parted_352 (by decide) ?_
        refine V_istore dX12_parted_353 (by decide) ?_
        refine V_iconst (v := 0) dX12_parted_355 (by decide) ?_
        refine V_istore dX12_parted_356 (by decide) ?_
        exact V_lv' (w_X12_parted_L358 ht G hd ih f _ _ _ _ hF) (v_all_c rfl (v_all_c rfl (v_all_c rfl (v_all_c rfl (v_all_c rfl v_all_n)))))
      · replace hF := (if_neg c).symm.trans hF
        refine V_aload_n dX12_parted_333 rfl ?_
        refine V_aload_n dX12_parted_334 rfl ?_
        refine X_gC G dX12_parted_335 fX12_54 ht.1 rfl ?_
        refine V_iload_n dX12_parted_338 rfl ?_
        refine V_iload dX12_parted_339 rfl ?_
        refine V_isub dX12_parted_341 ?_
        obtain ⟨y6, hc, hF⟩ := bd hF
        refine V_callV G dX12_parted_342 kX12_435 (wd_at ht.1) ⟨by decide, rfl⟩ (s_X12_fills ht ht.2.2.2.2.2.2.2.2.1 G hc (by omega)) rfl (Nat.le_of_ble_eq_true rfl) (fun _ _ _ q => q.elim) ?_
        rintro _ _ ⟨rfl, rfl⟩
        refine V_if_eq (tgt := 352) dX12_parted_345 (by decide) (fun c => ?_) (fun c => ?_)
        · replace hF := (if_pos c).symm.trans hF
          refine V_iconst (v := 0) dX12_parted_352 (by decide) ?_
          refine V_istore dX12_parted_353 (by decide) ?_
          refine V_iconst (v := 0) dX12_parted_355 (by decide) ?_
          refine V_istore dX12_parted_356 (by decide) ?_
          exact V_lv' (w_X12_parted_L358 ht G hd ih f _ _ _ _ hF) (v_all_c rfl (v_all_c rfl (v_all_c rfl (v_all_c rfl (v_all_c rfl v_all_n)))))
        · replace hF := (if_neg c).symm.trans hF
          refine V_iconst (v := 1) dX12_parted_348 (by decide) ?_
          refine V_goto (tgt := 353) dX12_parted_349 (by decide) ?_
          refine V_istore dX12_parted_353 (by decide) ?_
          refine V_iconst (v := 0) dX12_parted_355 (by decide) ?_
          refine V_istore dX12_parted_356 (by decide) ?_
          exact V_lv' (w_X12_parted_L358 ht G hd ih f _ _ _ _ hF) (v_all_c rfl (v_all_c rfl (v_all_c rfl (v_all_c rfl (v_all_c rfl v_all_n)))))
set_option maxRecDepth 100000 in
set_option maxHeartbeats 4000000 in
theorem w_X12_parted_L288 {l : Launch} {s0 : State} {D : va_G} {a0 : Array Value} {sh : List Sh} {f : Nat} {t : Nat} {p1 : Int32} {p2 : Int32} {p3 : Int32} (ht : isX12 sh t) {r : Int32 × St} {d : Nat} (G : GC l s0 D a0) (hd : 28 ≤ d + 1) : ∀ (n : Nat) (S : St) (l6 : Int32), F_X12_parted_L288 sh f t p1 p2 p3 n S l6 = some r → V l s0 D (d + 1) 0 0 mX12_parted (fun v h => v = some (.int r.1) ∧ h = wd s0.heap.size sh r.2) v_noX 288 [(0, .ref (s0.heap.size + t)), (3, .int p3), (6, .int l6)] [] (wd s0.heap.size sh S) := by
  intro n
  induction n with
  | zero => intro S l6 hF; cases hF
  | succ n ih =>
    intro S l6 hF
    unfold F_X12_parted_L288 at hF
    refine V_iload dX12_parted_288 rfl ?_
    refine V_iconst (v := 4) dX12_parted_290 (by decide) ?_
    refine V_icmp_ge (tgt := 308) dX12_parted_291 (by decide) (fun c => ?_) (fun c => ?_)
    · replace hF := (if_pos c).symm.trans hF
      refine V_iconst (v := 0) dX12_parted_308 (by decide) ?_
      refine V_istore dX12_parted_309 (by decide) ?_
      refine V_iconst (v := 1) dX12_parted_311 (by decide) ?_
      refine V_istore dX12_parted_312 (by decide) ?_
      exact V_lv' (w_X12_parted_L314 ht G hd f _ _ _ hF) (v_all_c rfl (v_all_c rfl (v_all_c rfl (v_all_c rfl v_all_n))))
    · replace hF := (if_neg c).symm.trans hF
      refine V_aload_n dX12_parted_294 rfl ?_
      refine X_gC G dX12_parted_295 fX12_138 ht.1 rfl ?_
      refine V_iload dX12_parted_298 rfl ?_
      refine V_iconst (v := 0) dX12_parted_300 (by decide) ?_
      obtain ⟨hz, hF⟩ := gv_out hF
      refine X_iast dX12_parted_301 ht.2.2.2.2.2.2.2.2.2.2.2.2.2.2.2.2.2.2.2.2.2.2.2.2.2.2.2.2.2.2.2.2.1 hz ?_
      obtain ⟨S1, qS1, hF⟩ := bnd_g hF
      refine V_eqS qS1 ?_
      obtain ⟨x2, qx2, hF⟩ := bnd_g hF
      refine B_iinc (v := 1) qx2 dX12_parted_302 rfl (by decide) (by decide) ?_
      refine V_goto (tgt := 288) dX12_parted_305 (by decide) ?_
      exact V_lv' (ih _ _ hF) (v_all_c rfl (v_all_c rfl (v_all_c rfl v_all_n)))
set_option maxRecDepth 100000 in
set_option maxHeartbeats 4000000 in
theorem w_X12_parted_L207 {l : Launch} {s0 : State} {D : va_G} {a0 : Array Value} {sh : List Sh} {f : Nat} {t : Nat} {p1 : Int32} {p2 : Int32} {p3 : Int32} (ht : isX12 sh t) {r : Int32 × St} {d : Nat} (G : GC l s0 D a0) (hd : 28 ≤ d + 1) : ∀ (n : Nat) (S : St) (l6 : Int32), F_X12_parted_L207 sh f t p1 p2 p3 n S l6 = some r → V l s0 D (d + 1) 0 0 mX12_parted (fun v h => v = some (.int r.1) ∧ h = wd s0.heap.size sh r.2) v_noX 207 [(0, .ref (s0.heap.size + t)), (3, .int p3), (6, .int l6)] [] (wd s0.heap.size sh S) := by
  intro n
  induction n with
  | zero => intro S l6 hF; cases hF
  | succ n ih =>
    intro S l6 hF
    unfold F_X12_parted_L207 at hF
    refine V_iload dX12_parted_207 rfl ?_
    refine V_iload_n dX12_parted_209 rfl ?_
    refine V_icmp_ge (tgt := 285) dX12_parted_210 (by decide) (fun c => ?_) (fun c => ?_)
    · replace hF := (if_pos c).symm.trans hF
      refine V_iconst (v := 0) dX12_parted_285 (by decide) ?_
      refine V_istore dX12_parted_286 (by decide) ?_
      exact V_lv' (w_X12_parted_L288 ht G hd f _ _ hF) (v_all_c rfl (v_all_c rfl (v_all_c rfl v_all_n)))
    · replace hF := (if_neg c).symm.trans hF
      refine V_aload_n dX12_parted_213 rfl ?_
      refine V_aload_n dX12_parted_214 rfl ?_
      refine X_gC G dX12_parted_215 fX12_51 ht.1 rfl ?_
      refine V_iload dX12_parted_218 rfl ?_
      obtain ⟨y1, hc, hF⟩ := bd hF
      refine V_callV G dX12_parted_220 kX12_435 (wd_at ht.1) ⟨by decide, rfl⟩ (s_X12_fills ht ht.2.2.2.2.2.2.2.1 G hc (by omega)) rfl (Nat.le_of_ble_eq_true rfl) (fun _ _ _ q => q.elim) ?_
      rintro _ _ ⟨rfl, rfl⟩
      refine V_if_eq (tgt := 245) dX12_parted_223 (by decide) (fun c => ?_) (fun c => ?_)
      · replace hF := (if_pos c).symm.trans hF
        exact V_lv' (w_X12_parted_L245 ht G hd ih _ _ hF) (v_all_c rfl (v_all_c rfl (v_all_c rfl v_all_n)))
      · replace hF := (if_neg c).symm.trans hF
        refine V_aload_n dX12_parted_226 rfl ?_
        refine V_aload_n dX12_parted_227 rfl ?_
        refine X_gC G dX12_parted_228 fX12_54 ht.1 rfl ?_
        refine V_iload_n dX12_parted_231 rfl ?_
        refine V_iload dX12_parted_232 rfl ?_
        refine V_isub dX12_parted_234 ?_
        obtain ⟨y2, hc, hF⟩ := bd hF
        refine V_callV G dX12_parted_235 kX12_435 (wd_at ht.1) ⟨by decide, rfl⟩ (s_X12_fills ht ht.2.2.2.2.2.2.2.2.1 G hc (by omega)) rfl (Nat.le_of_ble_eq_true rfl) (fun _ _ _ q => q.elim) ?_
        rintro _ _ ⟨rfl, rfl⟩
        refine V_if_eq (tgt := 245) dX12_parted_238 (by decide) (fun c => ?_) (fun c => ?_)
        · replace hF := (if_pos c).symm.trans hF
          exact V_lv' (w_X12_parted_L245 ht G hd ih _ _ hF) (v_all_c rfl (v_all_c rfl (v_all_c rfl v_all_n)))
        · replace hF := (if_neg c).symm.trans hF
          refine V_iconst (v := 1) dX12_parted_241 (by decide) ?_
          refine V_goto (tgt := 246) dX12_parted_242 (by decide) ?_
          exact V_lv' (w_X12_parted_L246 ht G hd ih _ _ _ hF) (v_all_c rfl (v_all_c rfl (v_all_c rfl v_all_n)))
set_option maxRecDepth 100000 in
set_option maxHeartbeats 4000000 in
theorem w_X12_parted_L158 {l : Launch} {s0 : State} {D : va_G} {a0 : Array Value} {sh : List Sh} {f : Nat} {t : Nat} {p1 : Int32} {p2 : Int32} {p3 : Int32} (ht : isX12 sh t) {r : Int32 × St} {d : Nat} (G : GC l s0 D a0) (hd : 28 ≤ d + 1) : ∀ (n : Nat) (S : St) (l6 : Int32), F_X12_parted_L158 sh f t p1 p2 p3 n S l6 = some r → V l s0 D (d + 1) 0 0 mX12_parted (fun v h => v = some (.int r.1) ∧ h = wd s0.heap.size sh r.2) v_noX 158 [(0, .ref (s0.heap.size + t)), (3, .int p3), (6, .int l6)] [] (wd s0.heap.size sh S) := by
  intro n
  induction n with
  | zero => intro S l6 hF; cases hF
  | succ n ih =>
    intro S l6 hF
    unfold F_X12_parted_L158 at hF
    refine V_iload dX12_parted_158 rfl ?_
    refine V_iload_n dX12_parted_160 rfl ?_
    refine V_icmp_ge (tgt := 204) dX12_parted_161 (by decide) (fun c => ?_) (fun c => ?_)
    · replace hF := (if_pos c).symm.trans hF
      refine V_iconst (v := 1) dX12_parted_204 (by decide) ?_
      refine V_istore dX12_parted_205 (by decide) ?_
      exact V_lv' (w_X12_parted_L207 ht G hd f _ _ hF) (v_all_c rfl (v_all_c rfl (v_all_c rfl v_all_n)))
    · replace hF := (if_neg c).symm.trans hF
      refine V_aload_n dX12_parted_164 rfl ?_
      refine V_aload_n dX12_parted_165 rfl ?_
      refine X_gC G dX12_parted_166 fX12_51 ht.1 rfl ?_
      refine V_iload dX12_parted_169 rfl ?_
      obtain ⟨y1, hc, hF⟩ := bd hF
      refine V_callV G dX12_parted_171 kX12_435 (wd_at ht.1) ⟨by decide, rfl⟩ (s_X12_fills ht ht.2.2.2.2.2.2.2.1 G hc (by omega)) rfl (Nat.le_of_ble_eq_true rfl) (fun _ _ _ q => q.elim) ?_
      rintro _ _ ⟨rfl, rfl⟩
      refine V_if_eq (tgt := 192) dX12_parted_174 (by decide) (fun c => ?_) (fun c => ?_)
      · replace hF := (if_pos c).symm.trans hF
        refine V_aload_n dX12_parted_192 rfl ?_
        refine V_iconst (v := 3) dX12_parted_193 (by decide) ?_
        obtain ⟨y2, hc, hF⟩ := bd hF
        refine V_callV G dX12_parted_194 kX12_548 (wd_at ht.1) ⟨by decide, rfl⟩ (s_X12_denied ht G hc (by omega)) rfl (Nat.le_of_ble_eq_true rfl) (fun _ _ _ q => q.elim) ?_
        rintro _ _ ⟨rfl, rfl⟩
        obtain ⟨hz, hF⟩ := gv_out hF
        cases hF
        exact V_ireturn dX12_parted_197 rfl (nb_n hz) ⟨rfl, rfl⟩
      · replace hF := (if_neg c).symm.trans hF
        refine V_aload_n dX12_parted_177 rfl ?_
        refine V_aload_n dX12_parted_178 rfl ?_
        refine X_gC G dX12_parted_179 fX12_54 ht.1 rfl ?_
        refine V_iload_n dX12_parted_182 rfl ?_
        refine V_iload dX12_parted_183 rfl ?_
        refine V_isub dX12_parted_185 ?_
        obtain ⟨y3, hc, hF⟩ := bd hF
        refine V_callV G dX12_parted_186 kX12_435 (wd_at ht.1) ⟨by decide, rfl⟩ (s_X12_fills ht ht.2.2.2.2.2.2.2.2.1 G hc (by omega)) rfl (Nat.le_of_ble_eq_true rfl) (fun _ _ _ q => q.elim) ?_
        rintro _ _ ⟨rfl, rfl⟩
        refine V_if_ne (tgt := 198) dX12_parted_189 (by decide) (fun c => ?_) (fun c => ?_)
        · replace hF := (if_neg c).symm.trans hF
          obtain ⟨x4, qx4, hF⟩ := bnd_g hF
          refine B_iinc (v := 1) qx4 dX12_parted_198 rfl (by decide) (by decide) ?_
          refine V_goto (tgt := 158) dX12_parted_201 (by decide) ?_
          exact V_lv' (ih _ _ hF) (v_all_c rfl (v_all_c rfl (v_all_c rfl v_all_n)))
        · replace hF := (if_pos c).symm.trans hF
          refine V_aload_n dX12_parted_192 rfl ?_
          refine V_iconst (v := 3) dX12_parted_193 (by decide) ?_
          obtain ⟨y5, hc, hF⟩ := bd hF
          refine V_callV G dX12_parted_194 kX12_548 (wd_at ht.1) ⟨by decide, rfl⟩ (s_X12_denied ht G hc (by omega)) rfl (Nat.le_of_ble_eq_true rfl) (fun _ _ _ q => q.elim) ?_
          rintro _ _ ⟨rfl, rfl⟩
          obtain ⟨hz, hF⟩ := gv_out hF
          cases hF
          exact V_ireturn dX12_parted_197 rfl (nb_n hz) ⟨rfl, rfl⟩
set_option maxRecDepth 100000 in
set_option maxHeartbeats 4000000 in
theorem s_X12_parted {l : Launch} {s0 : State} {D : va_G} {a0 : Array Value} {sh : List Sh} {f : Nat} {S : St} {t : Nat} {p1 : Int32} {p2 : Int32} {p3 : Int32} (ht : isX12 sh t) {r : Int32 × St} (G : GC l s0 D a0) (hF : F_X12_parted sh f S t p1 p2 p3 = some r) {d : Nat} (hd : 28 ≤ d) : Sp l s0 D d 0 0 mX12_parted (fun v h => v = some (.int r.1) ∧ h = wd s0.heap.size sh r.2) v_noX [.ref (s0.heap.size + t), .int p1, .int p2, .int p3] (wd s0.heap.size sh S) := by
  obtain ⟨d, rfl⟩ : ∃ e, d = e + 1 := ⟨d - 1, by omega⟩
  refine Sp.of (by decide +kernel) rfl (Nat.le_of_ble_eq_true rfl) ?_
  unfold F_X12_parted at hF
  refine V_aload_n dX12_parted_0 rfl ?_
  refine V_iconst (v := 0) dX12_parted_1 (by decide) ?_
  refine X_pI G dX12_parted_2 gX12_147 ht.1 rfl rfl rfl ?_
  obtain ⟨S1, qS1, hF⟩ := bnd_g hF
  refine V_eqS qS1 ?_
  refine V_aload_n dX12_parted_5 rfl ?_
  refine V_iload_n dX12_parted_6 rfl ?_
  obtain ⟨y2, hc, hF⟩ := bd hF
  refine V_callV G dX12_parted_7 kX12_600 (wd_at ht.1) ⟨by decide, rfl⟩ (s_X12_isSide ht G hc (by omega)) rfl (Nat.le_of_ble_eq_true rfl) (fun _ _ _ q => q.elim) ?_
  rintro _ _ ⟨rfl, rfl⟩
  refine V_if_eq (tgt := 21) dX12_parted_10 (by decide) (fun c => ?_) (fun c => ?_)
  · replace hF := (if_pos c).symm.trans hF
    refine V_aload_n dX12_parted_21 rfl ?_
    refine V_iconst (v := 1) dX12_parted_22 (by decide) ?_
    obtain ⟨y3, hc, hF⟩ := bd hF
    refine V_callV G dX12_parted_23 kX12_548 (wd_at ht.1) ⟨by decide, rfl⟩ (s_X12_denied ht G hc (by omega)) rfl (Nat.le_of_ble_eq_true rfl) (fun _ _ _ q => q.elim) ?_
    rintro _ _ ⟨rfl, rfl⟩
    obtain ⟨hz, hF⟩ := gv_out hF
    cases hF
    exact V_ireturn dX12_parted_26 rfl (nb_n hz) ⟨rfl, rfl⟩
  · replace hF := (if_neg c).symm.trans hF
    refine V_aload_n dX12_parted_13 rfl ?_
    refine V_iload_n dX12_parted_14 rfl ?_
    obtain ⟨y4, hc, hF⟩ := bd hF
    refine V_callV G dX12_parted_15 kX12_325 (wd_at ht.1) ⟨by decide, rfl⟩ (s_X12_isKind ht G hc (by omega)) rfl (Nat.le_of_ble_eq_true rfl) (fun _ _ _ q => q.elim) ?_
    rintro _ _ ⟨rfl, rfl⟩
    refine V_if_ne (tgt := 27) dX12_parted_18 (by decide) (fun c => ?_) (fun c => ?_)
    · replace hF := (if_neg c).symm.trans hF
      refine V_iload_n dX12_parted_27 rfl ?_
      refine V_iconst (v := 2) dX12_parted_28 (by decide) ?_
      refine V_iconst (v := 3) dX12_parted_29 (by decide) ?_
      obtain ⟨y5, hc, hF⟩ := bd hF
      refine V_callS dX12_parted_30 kX12_242 (s_X12_in G hc (by omega)) rfl (Nat.le_of_ble_eq_true rfl) (fun _ _ _ q => q.elim) ?_
      rintro _ _ ⟨rfl, rfl⟩
      refine V_if_ne (tgt := 42) dX12_parted_33 (by decide) (fun c => ?_) (fun c => ?_)
      · replace hF := (if_neg c).symm.trans hF
        refine V_aload_n dX12_parted_42 rfl ?_
        refine V_aload_n dX12_parted_43 rfl ?_
        refine X_gC G dX12_parted_44 fX12_51 ht.1 rfl ?_
        obtain ⟨y6, hc, hF⟩ := bd hF
        refine V_callV G dX12_parted_47 kX12_428 (wd_at ht.1) ⟨by decide, rfl⟩ (s_X12_copiesEnds ht ht.2.2.2.2.2.2.2.1 G hc (by omega)) rfl (Nat.le_of_ble_eq_true rfl) (fun _ _ _ q => q.elim) ?_
        rintro _ _ ⟨rfl, rfl⟩
        refine V_aload_n dX12_parted_50 rfl ?_
        refine V_aload_n dX12_parted_51 rfl ?_
        refine X_gC G dX12_parted_52 fX12_51 ht.1 rfl ?_
        obtain ⟨y7, hc, hF⟩ := bd hF
        refine V_callV G dX12_parted_55 kX12_432 (wd_at ht.1) ⟨by decide, rfl⟩ (s_X12_isDrawn ht ht.2.2.2.2.2.2.2.1 G hc (by omega)) rfl (Nat.le_of_ble_eq_true rfl) (fun _ _ _ q => q.elim) ?_
        rintro _ _ ⟨rfl, rfl⟩
        refine V_istore dX12_parted_58 (by decide) ?_
        refine V_aload_n dX12_parted_60 rfl ?_
        refine V_aload_n dX12_parted_61 rfl ?_
        refine X_gC G dX12_parted_62 fX12_51 ht.1 rfl ?_
        obtain ⟨y8, hc, hF⟩ := bd hF
        refine V_callV G dX12_parted_65 kX12_585 (wd_at ht.1) ⟨by decide, rfl⟩ (s_X12_isEven_ ht ht.2.2.2.2.2.2.2.1 G hc (by omega)) rfl (Nat.le_of_ble_eq_true rfl) (fun _ _ _ q => q.elim) ?_
        rintro _ _ ⟨rfl, rfl⟩
        refine V_istore dX12_parted_68 (by decide) ?_
        refine V_aload_n dX12_parted_70 rfl ?_
        refine V_aload_n dX12_parted_71 rfl ?_
        refine X_gC G dX12_parted_72 fX12_51 ht.1 rfl ?_
        refine V_iload_n dX12_parted_75 rfl ?_
        refine V_iload_n dX12_parted_76 rfl ?_
        obtain ⟨y9, hc, hF⟩ := bd hF
        refine V_callV G dX12_parted_77 kX12_603 (wd_at ht.1) ⟨by decide, rfl⟩ (s_X12_parts ht ht.2.2.2.2.2.2.2.1 G hc (by omega)) rfl (Nat.le_of_ble_eq_true rfl) (fun _ _ _ q => q.elim) ?_
        rintro _ _ ⟨rfl, rfl⟩
        refine V_aload_n dX12_parted_80 rfl ?_
        refine V_aload_n dX12_parted_81 rfl ?_
        refine X_gC G dX12_parted_82 fX12_54 ht.1 rfl ?_
        refine V_iconst (v := 1) dX12_parted_85 (by decide) ?_
        refine V_aload_n dX12_parted_86 rfl ?_
        refine X_gI G dX12_parted_87 fX12_315 ht.1 rfl ?_
        refine V_ishl dX12_parted_90 ?_
        refine V_iconst (v := 1) dX12_parted_91 (by decide) ?_
        refine V_isub dX12_parted_92 ?_
        refine V_iload_n dX12_parted_93 rfl ?_
        refine V_iconst (v := -1) dX12_parted_94 (by decide) ?_
        refine V_ixor dX12_parted_95 ?_
        refine V_iand dX12_parted_96 ?_
        refine V_aload_n dX12_parted_97 rfl ?_
        obtain ⟨b10, hrb10, hF⟩ := bd hF
        obtain ⟨hb10, hF⟩ := gv_in hF
        replace hb10 := ckX9_ok hb10
        refine X_gR G dX12_parted_98 fX12_312 ht.1 rfl hrb10 ?_
        refine X_gC G dX12_parted_101 fX12_257 hb10.1 rfl ?_
        refine V_iload_n dX12_parted_104 rfl ?_
        obtain ⟨hz, hF⟩ := gv_out hF
        refine X_iald dX12_parted_105 hb10.2.2.1 hz ?_
        obtain ⟨y11, hc, hF⟩ := bd hF
        refine V_callV G dX12_parted_106 kX12_603 (wd_at ht.1) ⟨by decide, rfl⟩ (s_X12_parts ht ht.2.2.2.2.2.2.2.2.1 G hc (by omega)) rfl (Nat.le_of_ble_eq_true rfl) (fun _ _ _ q => q.elim) ?_
        rintro _ _ ⟨rfl, rfl⟩
        refine V_iload dX12_parted_109 rfl ?_
        refine V_if_eq (tgt := 136) dX12_parted_111 (by decide) (fun c => ?_) (fun c => ?_)
        · replace hF := (if_pos c).symm.trans hF
          refine V_aload_n dX12_parted_136 rfl ?_
          refine V_bipush (v := 7) dX12_parted_137 (by decide) ?_
          obtain ⟨y12, hc, hF⟩ := bd hF
          refine V_callV G dX12_parted_139 kX12_548 (wd_at ht.1) ⟨by decide, rfl⟩ (s_X12_denied ht G hc (by omega)) rfl (Nat.le_of_ble_eq_true rfl) (fun _ _ _ q => q.elim) ?_
          rintro _ _ ⟨rfl, rfl⟩
          obtain ⟨hz, hF⟩ := gv_out hF
          cases hF
          exact V_ireturn dX12_parted_142 rfl (nb_n hz) ⟨rfl, rfl⟩
        · replace hF := (if_neg c).symm.trans hF
          refine V_aload_n dX12_parted_114 rfl ?_
          refine V_aload_n dX12_parted_115 rfl ?_
          refine X_gC G dX12_parted_116 fX12_51 ht.1 rfl ?_
          obtain ⟨y13, hc, hF⟩ := bd hF
          refine V_callV G dX12_parted_119 kX12_432 (wd_at ht.1) ⟨by decide, rfl⟩ (s_X12_isDrawn ht ht.2.2.2.2.2.2.2.1 G hc (by omega)) rfl (Nat.le_of_ble_eq_true rfl) (fun _ _ _ q => q.elim) ?_
          rintro _ _ ⟨rfl, rfl⟩
          refine V_if_eq (tgt := 136) dX12_parted_122 (by decide) (fun c => ?_) (fun c => ?_)
          · replace hF := (if_pos c).symm.trans hF
            refine V_aload_n dX12_parted_136 rfl ?_
            refine V_bipush (v := 7) dX12_parted_137 (by decide) ?_
            obtain ⟨y14, hc, hF⟩ := bd hF
            refine V_callV G dX12_parted_139 kX12_548 (wd_at ht.1) ⟨by decide, rfl⟩ (s_X12_denied ht G hc (by omega)) rfl (Nat.le_of_ble_eq_true rfl) (fun _ _ _ q => q.elim) ?_
            rintro _ _ ⟨rfl, rfl⟩
            obtain ⟨hz, hF⟩ := gv_out hF
            cases hF
            exact V_ireturn dX12_parted_142 rfl (nb_n hz) ⟨rfl, rfl⟩
          · replace hF := (if_neg c).symm.trans hF
            refine V_aload_n dX12_parted_125 rfl ?_
            refine V_aload_n dX12_parted_126 rfl ?_
            refine X_gC G dX12_parted_127 fX12_54 ht.1 rfl ?_
            obtain ⟨y15, hc, hF⟩ := bd hF
            refine V_callV G dX12_parted_130 kX12_432 (wd_at ht.1) ⟨by decide, rfl⟩ (s_X12_isDrawn ht ht.2.2.2.2.2.2.2.2.1 G hc (by omega)) rfl (Nat.le_of_ble_eq_true rfl) (fun _ _ _ q => q.elim) ?_
            rintro _ _ ⟨rfl, rfl⟩
            refine V_if_ne (tgt := 143) dX12_parted_133 (by decide) (fun c => ?_) (fun c => ?_)
            · replace hF := (if_neg c).symm.trans hF
              refine V_iload dX12_parted_143 rfl ?_
              refine V_if_ne (tgt := 155) dX12_parted_145 (by decide) (fun c => ?_) (fun c => ?_)
              · replace hF := (if_neg c).symm.trans hF
                refine V_iconst (v := 1) dX12_parted_155 (by decide) ?_
                refine V_istore dX12_parted_156 (by decide) ?_
                exact V_lv' (w_X12_parted_L158 ht G hd f _ _ hF) (v_all_c rfl (v_all_c rfl (v_all_c rfl v_all_n)))
              · replace hF := (if_pos c).symm.trans hF
                refine V_aload_n dX12_parted_148 rfl ?_
                refine V_bipush (v := 8) dX12_parted_149 (by decide) ?_
                obtain ⟨y16, hc, hF⟩ := bd hF
                refine V_callV G dX12_parted_151 kX12_548 (wd_at ht.1) ⟨by decide, rfl⟩ (s_X12_denied ht G hc (by omega)) rfl (Nat.le_of_ble_eq_true rfl) (fun _ _ _ q => q.elim) ?_
                rintro _ _ ⟨rfl, rfl⟩
                obtain ⟨hz, hF⟩ := gv_out hF
                cases hF
                exact V_ireturn dX12_parted_154 rfl (nb_n hz) ⟨rfl, rfl⟩
            · replace hF := (if_pos c).symm.trans hF
              refine V_aload_n dX12_parted_136 rfl ?_
              refine V_bipush (v := 7) dX12_parted_137 (by decide) ?_
              obtain ⟨y17, hc, hF⟩ := bd hF
              refine V_callV G dX12_parted_139 kX12_548 (wd_at ht.1) ⟨by decide, rfl⟩ (s_X12_denied ht G hc (by omega)) rfl (Nat.le_of_ble_eq_true rfl) (fun _ _ _ q => q.elim) ?_
              rintro _ _ ⟨rfl, rfl⟩
              obtain ⟨hz, hF⟩ := gv_out hF
              cases hF
              exact V_ireturn dX12_parted_142 rfl (nb_n hz) ⟨rfl, rfl⟩
      · replace hF := (if_pos c).symm.trans hF
        refine V_aload_n dX12_parted_36 rfl ?_
        refine V_iconst (v := 2) dX12_parted_37 (by decide) ?_
        obtain ⟨y18, hc, hF⟩ := bd hF
        refine V_callV G dX12_parted_38 kX12_548 (wd_at ht.1) ⟨by decide, rfl⟩ (s_X12_denied ht G hc (by omega)) rfl (Nat.le_of_ble_eq_true rfl) (fun _ _ _ q => q.elim) ?_
        rintro _ _ ⟨rfl, rfl⟩
        obtain ⟨hz, hF⟩ := gv_out hF
        cases hF
        exact V_ireturn dX12_parted_41 rfl (nb_n hz) ⟨rfl, rfl⟩
    · replace hF := (if_pos c).symm.trans hF
      refine V_aload_n dX12_parted_21 rfl ?_
      refine V_iconst (v := 1) dX12_parted_22 (by decide) ?_
      obtain ⟨y19, hc, hF⟩ := bd hF
      refine V_callV G dX12_parted_23 kX12_548 (wd_at ht.1) ⟨by decide, rfl⟩ (s_X12_denied ht G hc (by omega)) rfl (Nat.le_of_ble_eq_true rfl) (fun _ _ _ q => q.elim) ?_
      rintro _ _ ⟨rfl, rfl⟩
      obtain ⟨hz, hF⟩ := gv_out hF
      cases hF
      exact V_ireturn dX12_parted_26 rfl (nb_n hz) ⟨rfl, rfl⟩
set_option maxRecDepth 100000 in
set_option maxHeartbeats 4000000 in
theorem s_X12_whole {l : Launch} {s0 : State} {D : va_G} {a0 : Array Value} {sh : List Sh} {f : Nat} {S : St} {t : Nat} {p1 : Int32} {p2 : Int32} {p3 : Int32} (ht : isX12 sh t) {r : Int32 × St} (G : GC l s0 D a0) (hF : F_X12_whole sh f S t p1 p2 p3 = some r) {d : Nat} (hd : 29 ≤ d) : Sp l s0 D d 0 0 mX12_whole (fun v h => v = some (.int r.1) ∧ h = wd s0.heap.size sh r.2) v_noX [.ref (s0.heap.size + t), .int p1, .int p2, .int p3] (wd s0.heap.size sh S) := by
  obtain ⟨d, rfl⟩ : ∃ e, d = e + 1 := ⟨d - 1, by omega⟩
  refine Sp.of (by decide +kernel) rfl (Nat.le_of_ble_eq_true rfl) ?_
  unfold F_X12_whole at hF
  refine V_aload_n dX12_whole_0 rfl ?_
  refine V_iconst (v := 0) dX12_whole_1 (by decide) ?_
  refine X_pI G dX12_whole_2 gX12_147 ht.1 rfl rfl rfl ?_
  obtain ⟨S1, qS1, hF⟩ := bnd_g hF
  refine V_eqS qS1 ?_
  refine V_aload_n dX12_whole_5 rfl ?_
  refine V_iload_n dX12_whole_6 rfl ?_
  obtain ⟨y2, hc, hF⟩ := bd hF
  refine V_callV G dX12_whole_7 kX12_600 (wd_at ht.1) ⟨by decide, rfl⟩ (s_X12_isSide ht G hc (by omega)) rfl (Nat.le_of_ble_eq_true rfl) (fun _ _ _ q => q.elim) ?_
  rintro _ _ ⟨rfl, rfl⟩
  refine V_if_eq (tgt := 32) dX12_whole_10 (by decide) (fun c => ?_) (fun c => ?_)
  · replace hF := (if_pos c).symm.trans hF
    refine V_aload_n dX12_whole_32 rfl ?_
    refine V_iconst (v := 1) dX12_whole_33 (by decide) ?_
    obtain ⟨y3, hc, hF⟩ := bd hF
    refine V_callV G dX12_whole_34 kX12_548 (wd_at ht.1) ⟨by decide, rfl⟩ (s_X12_denied ht G hc (by omega)) rfl (Nat.le_of_ble_eq_true rfl) (fun _ _ _ q => q.elim) ?_
    rintro _ _ ⟨rfl, rfl⟩
    obtain ⟨hz, hF⟩ := gv_out hF
    cases hF
    exact V_ireturn dX12_whole_37 rfl (nb_n hz) ⟨rfl, rfl⟩
  · replace hF := (if_neg c).symm.trans hF
    refine V_aload_n dX12_whole_13 rfl ?_
    refine V_iload_n dX12_whole_14 rfl ?_
    obtain ⟨y4, hc, hF⟩ := bd hF
    refine V_callV G dX12_whole_15 kX12_325 (wd_at ht.1) ⟨by decide, rfl⟩ (s_X12_isKind ht G hc (by omega)) rfl (Nat.le_of_ble_eq_true rfl) (fun _ _ _ q => q.elim) ?_
    rintro _ _ ⟨rfl, rfl⟩
    refine V_if_eq (tgt := 32) dX12_whole_18 (by decide) (fun c => ?_) (fun c => ?_)
    · replace hF := (if_pos c).symm.trans hF
      refine V_aload_n dX12_whole_32 rfl ?_
      refine V_iconst (v := 1) dX12_whole_33 (by decide) ?_
      obtain ⟨y5, hc, hF⟩ := bd hF
      refine V_callV G dX12_whole_34 kX12_548 (wd_at ht.1) ⟨by decide, rfl⟩ (s_X12_denied ht G hc (by omega)) rfl (Nat.le_of_ble_eq_true rfl) (fun _ _ _ q => q.elim) ?_
      rintro _ _ ⟨rfl, rfl⟩
      obtain ⟨hz, hF⟩ := gv_out hF
      cases hF
      exact V_ireturn dX12_whole_37 rfl (nb_n hz) ⟨rfl, rfl⟩
    · replace hF := (if_neg c).symm.trans hF
      refine V_aload_n dX12_whole_21 rfl ?_
      refine V_iload_n dX12_whole_22 rfl ?_
      refine V_iload_n dX12_whole_23 rfl ?_
      refine V_iload_n dX12_whole_24 rfl ?_
      refine V_iconst (v := 2) dX12_whole_25 (by decide) ?_
      obtain ⟨y6, hc, hF⟩ := bd hF
      refine V_callV G dX12_whole_26 kX12_581 (wd_at ht.1) ⟨by decide, rfl⟩ (s_X12_tells ht G hc (by omega)) rfl (Nat.le_of_ble_eq_true rfl) (fun _ _ _ q => q.elim) ?_
      rintro _ _ ⟨rfl, rfl⟩
      refine V_goto (tgt := 37) dX12_whole_29 (by decide) ?_
      obtain ⟨hz, hF⟩ := gv_out hF
      cases hF
      exact V_ireturn dX12_whole_37 rfl (nb_n hz) ⟨rfl, rfl⟩

