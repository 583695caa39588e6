def F_J2_length_9d52b (sh : List Sh) (f : Nat) (S : St) (p0 n0 : Nat) : Option (Int32) :=
  some ((Int32.ofNat n0) >>> ((1 : Int32) &&& 31))
set_option maxRecDepth 100000 in
set_option maxHeartbeats 4000000 in
theorem s_J2_length_9d52b {l : Launch} {s0 : State} {D : va_G} {a0 : Array Value} {sh : List Sh} {f : Nat} {S : St} {p0 n0 : Nat} (hp0 : sh[p0]? = some (.inl (.byte, n0))) {r : Int32} (G : GC l s0 D a0) (hF : F_J2_length_9d52b sh f S p0 n0 = some r) {d : Nat} (hd : 1 ≤ d) : Sp l s0 D d 0 0 mJ2_length_9d52b (fun v h => v = some (.int r) ∧ h = wd s0.heap.size sh S) v_noX [.ref (s0.heap.size + p0)] (wd s0.heap.size sh S) := by
  obtain ⟨d, rfl⟩ : ∃ e, d = e + 1 := ⟨d - 1, by omega⟩
  refine Sp.of (by decide +kernel) rfl (Nat.le_of_ble_eq_true rfl) ?_
  unfold F_J2_length_9d52b at hF
  refine V_aload_n dJ2_length_9d52b_0 rfl ?_
  refine X_alen dJ2_length_9d52b_1 hp0 ?_
  refine V_iconst (v := 1) dJ2_length_9d52b_2 (by decide) ?_
  refine V_ishr dJ2_length_9d52b_3 ?_
  cases hF
  exact V_ireturn dJ2_length_9d52b_4 rfl rfl ⟨rfl, rfl⟩
set_option maxRecDepth 100000 in
set_option maxHeartbeats 4000000 in
theorem w_J6_numberOfTrailingZeros_0f7a4_L49 {l : Launch} {s0 : State} {D : va_G} {a0 : Array Value} {sh : List Sh} {f : Nat} {S : St} {r : Int32} {d : Nat} (G : GC l s0 D a0) (hd : 1 ≤ d + 1) : ∀ (l0 : Int32) (l1 : Int32), F_J6_numberOfTrailingZeros_0f7a4_L49 sh f S l0 l1 = some r → V l s0 D (d + 1) 0 0 mJ6_numberOfTrailingZeros_0f7a4 (fun v h => v = some (.int r) ∧ h = wd s0.heap.size sh S) v_noX 49 [(0, .int l0), (1, .int l1)] [] (wd s0.heap.size sh S) := by
  intro l0 l1 hF
  unfold F_J6_numberOfTrailingZeros_0f7a4_L49 at hF
  refine V_iload_n dJ6_numberOfTrailingZeros_0f7a4_49 rfl ?_
  refine V_bipush (v := 16) dJ6_numberOfTrailingZeros_0f7a4_50 (by decide) ?_
  refine V_icmp_le (tgt := 62) dJ6_numberOfTrailingZeros_0f7a4_52 (by decide) (fun c => ?_) (fun c => ?_)
  · replace hF := (if_pos c).symm.trans hF
    refine V_iload_n dJ6_numberOfTrailingZeros_0f7a4_62 rfl ?_
    refine V_iconst (v := 4) dJ6_numberOfTrailingZeros_0f7a4_63 (by decide) ?_
    refine V_icmp_le (tgt := 74) dJ6_numberOfTrailingZeros_0f7a4_64 (by decide) (fun c => ?_) (fun c => ?_)
    · replace hF := (if_pos c).symm.trans hF
      refine V_iload_n dJ6_numberOfTrailingZeros_0f7a4_74 rfl ?_
      refine V_iload_n dJ6_numberOfTrailingZeros_0f7a4_75 rfl ?_
      refine V_iconst (v := 1) dJ6_numberOfTrailingZeros_0f7a4_76 (by decide) ?_
      refine V_iushr dJ6_numberOfTrailingZeros_0f7a4_77 ?_
      refine V_iadd dJ6_numberOfTrailingZeros_0f7a4_78 ?_
      cases hF
      exact V_ireturn dJ6_numberOfTrailingZeros_0f7a4_79 rfl rfl ⟨rfl, rfl⟩
    · replace hF := (if_neg c).symm.trans hF
      obtain ⟨x1, qx1, hF⟩ := bnd_g hF
      refine B_iinc (v := 2) qx1 dJ6_numberOfTrailingZeros_0f7a4_67 rfl (by decide) (by decide) ?_
      refine V_iload_n dJ6_numberOfTrailingZeros_0f7a4_70 rfl ?_
      refine V_iconst (v := 2) dJ6_numberOfTrailingZeros_0f7a4_71 (by decide) ?_
      refine V_iushr dJ6_numberOfTrailingZeros_0f7a4_72 ?_
      obtain ⟨x2, qx2, hF⟩ := bnd_g hF
      refine B_istore_n qx2 dJ6_numberOfTrailingZeros_0f7a4_73 (by decide) ?_
      refine V_iload_n dJ6_numberOfTrailingZeros_0f7a4_74 rfl ?_
      refine V_iload_n dJ6_numberOfTrailingZeros_0f7a4_75 rfl ?_
      refine V_iconst (v := 1) dJ6_numberOfTrailingZeros_0f7a4_76 (by decide) ?_
      refine V_iushr dJ6_numberOfTrailingZeros_0f7a4_77 ?_
      refine V_iadd dJ6_numberOfTrailingZeros_0f7a4_78 ?_
      cases hF
      exact V_ireturn dJ6_numberOfTrailingZeros_0f7a4_79 rfl rfl ⟨rfl, rfl⟩
  · replace hF := (if_neg c).symm.trans hF
    obtain ⟨x3, qx3, hF⟩ := bnd_g hF
    refine B_iinc (v := 4) qx3 dJ6_numberOfTrailingZeros_0f7a4_55 rfl (by decide) (by decide) ?_
    refine V_iload_n dJ6_numberOfTrailingZeros_0f7a4_58 rfl ?_
    refine V_iconst (v := 4) dJ6_numberOfTrailingZeros_0f7a4_59 (by decide) ?_
    refine V_iushr dJ6_numberOfTrailingZeros_0f7a4_60 ?_
    obtain ⟨x4, qx4, hF⟩ := bnd_g hF
    refine B_istore_n qx4 dJ6_numberOfTrailingZeros_0f7a4_61 (by decide) ?_
    refine V_iload_n dJ6_numberOfTrailingZeros_0f7a4_62 rfl ?_
    refine V_iconst (v := 4) dJ6_numberOfTrailingZeros_0f7a4_63 (by decide) ?_
    refine V_icmp_le (tgt := 74) dJ6_numberOfTrailingZeros_0f7a4_64 (by decide) (fun c => ?_) (fun c => ?_)
    · replace hF := (if_pos c).symm.trans hF
      refine V_iload_n dJ6_numberOfTrailingZeros_0f7a4_74 rfl ?_
      refine V_iload_n dJ6_numberOfTrailingZeros_0f7a4_75 rfl ?_
      refine V_iconst (v := 1) dJ6_numberOfTrailingZeros_0f7a4_76 (by decide) ?_
      refine V_iushr dJ6_numberOfTrailingZeros_0f7a4_77 ?_
      refine V_iadd dJ6_numberOfTrailingZeros_0f7a4_78 ?_
      cases hF
      exact V_ireturn dJ6_numberOfTrailingZeros_0f7a4_79 rfl rfl ⟨rfl, rfl⟩
    · replace hF := (if_neg c).symm.trans hF
      obtain ⟨x5, qx5, hF⟩ := bnd_g hF
      refine B_iinc (v := 2) qx5 dJ6_numberOfTrailingZeros_0f7a4_67 rfl (by decide) (by decide) ?_
      refine V_iload_n dJ6_numberOfTrailingZeros_0f7a4_70 rfl ?_
      refine V_iconst (v := 2) dJ6_numberOfTrailingZeros_0f7a4_71 (by decide) ?_
      refine V_iushr dJ6_numberOfTrailingZeros_0f7a4_72 ?_
      obtain ⟨x6, qx6, hF⟩ := bnd_g hF
      refine B_istore_n qx6 dJ6_numberOfTrailingZeros_0f7a4_73 (by decide) ?_
      refine V_iload_n dJ6_numberOfTrailingZeros_0f7a4_74 rfl ?_
      refine V_iload_n dJ6_numberOfTrailingZeros_0f7a4_75 rfl ?_
      refine V_iconst (v := 1) dJ6_numberOfTrailingZeros_0f7a4_76 (by decide) ?_
      refine V_iushr dJ6_numberOfTrailingZeros_0f7a4_77 ?_
      refine V_iadd dJ6_numberOfTrailingZeros_0f7a4_78 ?_
      cases hF
      exact V_ireturn dJ6_numberOfTrailingZeros_0f7a4_79 rfl rfl ⟨rfl, rfl⟩
set_option maxRecDepth 100000 in
set_option maxHeartbeats 4000000 in
theorem w_J6_numberOfTrailingZeros_0f7a4_L34 {l : Launch} {s0 : State} {D : va_G} {a0 : Array Value} {sh : List Sh} {f : Nat} {S : St} {r : Int32} {d : Nat} (G : GC l s0 D a0) (hd : 1 ≤ d + 1) : ∀ (l0 : Int32) (l1 : Int32), F_J6_numberOfTrailingZeros_0f7a4_L34 sh f S l0 l1 = some r → V l s0 D (d + 1) 0 0 mJ6_numberOfTrailingZeros_0f7a4 (fun v h => v = some (.int r) ∧ h = wd s0.heap.size sh S) v_noX 34 [(0, .int l0), (1, .int l1)] [] (wd s0.heap.size sh S) := by
  intro l0 l1 hF
  unfold F_J6_numberOfTrailingZeros_0f7a4_L34 at hF
  refine V_iload_n dJ6_numberOfTrailingZeros_0f7a4_34 rfl ?_
  refine V_sipush (v := 256) dJ6_numberOfTrailingZeros_0f7a4_35 (by decide) ?_
  refine V_icmp_le (tgt := 49) dJ6_numberOfTrailingZeros_0f7a4_38 (by decide) (fun c => ?_) (fun c => ?_)
  · replace hF := (if_pos c).symm.trans hF
    exact V_lv' (w_J6_numberOfTrailingZeros_0f7a4_L49  G hd _ _ hF) (v_all_c rfl (v_all_c rfl v_all_n))
  · replace hF := (if_neg c).symm.trans hF
    obtain ⟨x1, qx1, hF⟩ := bnd_g hF
    refine B_iinc (v := 8) qx1 dJ6_numberOfTrailingZeros_0f7a4_41 rfl (by decide) (by decide) ?_
    refine V_iload_n dJ6_numberOfTrailingZeros_0f7a4_44 rfl ?_
    refine V_bipush (v := 8) dJ6_numberOfTrailingZeros_0f7a4_45 (by decide) ?_
    refine V_iushr dJ6_numberOfTrailingZeros_0f7a4_47 ?_
    obtain ⟨x2, qx2, hF⟩ := bnd_g hF
    refine B_istore_n qx2 dJ6_numberOfTrailingZeros_0f7a4_48 (by decide) ?_
    exact V_lv' (w_J6_numberOfTrailingZeros_0f7a4_L49  G hd _ _ hF) (v_all_c rfl (v_all_c rfl v_all_n))
set_option maxRecDepth 100000 in
set_option maxHeartbeats 4000000 in
theorem s_J6_numberOfTrailingZeros_0f7a4 {l : Launch} {s0 : State} {D : va_G} {a0 : Array Value} {sh : List Sh} {f : Nat} {S : St} {p0 : Int32} {r : Int32} (G : GC l s0 D a0) (hF : F_J6_numberOfTrailingZeros_0f7a4 sh f S p0 = some r) {d : Nat} (hd : 1 ≤ d) : Sp l s0 D d 0 0 mJ6_numberOfTrailingZeros_0f7a4 (fun v h => v = some (.int r) ∧ h = wd s0.heap.size sh S) v_noX [.int p0] (wd s0.heap.size sh S) := by
  obtain ⟨d, rfl⟩ : ∃ e, d = e + 1 := ⟨d - 1, by omega⟩
  refine Sp.of (by decide +kernel) rfl (Nat.le_of_ble_eq_true rfl) ?_
  unfold F_J6_numberOfTrailingZeros_0f7a4 at hF
  refine V_iload_n dJ6_numberOfTrailingZeros_0f7a4_0 rfl ?_
  refine V_iconst (v := -1) dJ6_numberOfTrailingZeros_0f7a4_1 (by decide) ?_
  refine V_ixor dJ6_numberOfTrailingZeros_0f7a4_2 ?_
  refine V_iload_n dJ6_numberOfTrailingZeros_0f7a4_3 rfl ?_
  refine V_iconst (v := 1) dJ6_numberOfTrailingZeros_0f7a4_4 (by decide) ?_
  refine V_isub dJ6_numberOfTrailingZeros_0f7a4_5 ?_
  refine V_iand dJ6_numberOfTrailingZeros_0f7a4_6 ?_
  obtain ⟨x1, qx1, hF⟩ := bnd_g hF
  refine B_istore_n qx1 dJ6_numberOfTrailingZeros_0f7a4_7 (by decide) ?_
  refine V_iload_n dJ6_numberOfTrailingZeros_0f7a4_8 rfl ?_
  refine V_if_gt (tgt := 17) dJ6_numberOfTrailingZeros_0f7a4_9 (by decide) (fun c => ?_) (fun c => ?_)
  · replace hF := (if_pos c).symm.trans hF
    refine V_iconst (v := 1) dJ6_numberOfTrailingZeros_0f7a4_17 (by decide) ?_
    refine V_istore_n dJ6_numberOfTrailingZeros_0f7a4_18 (by decide) ?_
    refine V_iload_n dJ6_numberOfTrailingZeros_0f7a4_19 rfl ?_
    refine V_ldcw dJ6_numberOfTrailingZeros_0f7a4_20 qJ6_264 ?_
    refine V_icmp_le (tgt := 34) dJ6_numberOfTrailingZeros_0f7a4_23 (by decide) (fun c => ?_) (fun c => ?_)
    · replace hF := (if_pos c).symm.trans hF
      exact V_lv' (w_J6_numberOfTrailingZeros_0f7a4_L34  G hd _ _ hF) (v_all_c rfl (v_all_c rfl v_all_n))
    · replace hF := (if_neg c).symm.trans hF
      obtain ⟨x2, qx2, hF⟩ := bnd_g hF
      refine B_iinc (v := 16) qx2 dJ6_numberOfTrailingZeros_0f7a4_26 rfl (by decide) (by decide) ?_
      refine V_iload_n dJ6_numberOfTrailingZeros_0f7a4_29 rfl ?_
      refine V_bipush (v := 16) dJ6_numberOfTrailingZeros_0f7a4_30 (by decide) ?_
      refine V_iushr dJ6_numberOfTrailingZeros_0f7a4_32 ?_
      obtain ⟨x3, qx3, hF⟩ := bnd_g hF
      refine B_istore_n qx3 dJ6_numberOfTrailingZeros_0f7a4_33 (by decide) ?_
      exact V_lv' (w_J6_numberOfTrailingZeros_0f7a4_L34  G hd _ _ hF) (v_all_c rfl (v_all_c rfl v_all_n))
  · replace hF := (if_neg c).symm.trans hF
    refine V_iload_n dJ6_numberOfTrailingZeros_0f7a4_12 rfl ?_
    refine V_bipush (v := 32) dJ6_numberOfTrailingZeros_0f7a4_13 (by decide) ?_
    refine V_iand dJ6_numberOfTrailingZeros_0f7a4_15 ?_
    cases hF
    exact V_ireturn dJ6_numberOfTrailingZeros_0f7a4_16 rfl rfl ⟨rfl, rfl⟩
set_option maxRecDepth 100000 in
set_option maxHeartbeats 4000000 in
theorem s_J6_bitCount_0f7a4 {l : Launch} {s0 : State} {D : va_G} {a0 : Array Value} {sh : List Sh} {f : Nat} {S : St} {p0 : Int32} {r : Int32} (G : GC l s0 D a0) (hF : F_J6_bitCount_0f7a4 sh f S p0 = some r) {d : Nat} (hd : 1 ≤ d) : Sp l s0 D d 0 0 mJ6_bitCount_0f7a4 (fun v h => v = some (.int r) ∧ h = wd s0.heap.size sh S) v_noX [.int p0] (wd s0.heap.size sh S) := by
  obtain ⟨d, rfl⟩ : ∃ e, d = e + 1 := ⟨d - 1, by omega⟩
  refine Sp.of (by decide +kernel) rfl (Nat.le_of_ble_eq_true rfl) ?_
  unfold F_J6_bitCount_0f7a4 at hF
  refine V_iload_n dJ6_bitCount_0f7a4_0 rfl ?_
  refine V_iload_n dJ6_bitCount_0f7a4_1 rfl ?_
  refine V_iconst (v := 1) dJ6_bitCount_0f7a4_2 (by decide) ?_
  refine V_iushr dJ6_bitCount_0f7a4_3 ?_
  refine V_ldcw dJ6_bitCount_0f7a4_4 qJ6_265 ?_
  refine V_iand dJ6_bitCount_0f7a4_7 ?_
  refine V_isub dJ6_bitCount_0f7a4_8 ?_
  obtain ⟨x1, qx1, hF⟩ := bnd_g hF
  refine B_istore_n qx1 dJ6_bitCount_0f7a4_9 (by decide) ?_
  refine V_iload_n dJ6_bitCount_0f7a4_10 rfl ?_
  refine V_ldcw dJ6_bitCount_0f7a4_11 qJ6_266 ?_
  refine V_iand dJ6_bitCount_0f7a4_14 ?_
  refine V_iload_n dJ6_bitCount_0f7a4_15 rfl ?_
  refine V_iconst (v := 2) dJ6_bitCount_0f7a4_16 (by decide) ?_
  refine V_iushr dJ6_bitCount_0f7a4_17 ?_
  refine V_ldcw dJ6_bitCount_0f7a4_18 qJ6_266 ?_
  refine V_iand dJ6_bitCount_0f7a4_21 ?_
  refine V_iadd dJ6_bitCount_0f7a4_22 ?_
  obtain ⟨x2, qx2, hF⟩ := bnd_g hF
  refine B_istore_n qx2 dJ6_bitCount_0f7a4_23 (by decide) ?_
  refine V_iload_n dJ6_bitCount_0f7a4_24 rfl ?_
  refine V_iload_n dJ6_bitCount_0f7a4_25 rfl ?_
  refine V_iconst (v := 4) dJ6_bitCount_0f7a4_26 (by decide) ?_
  refine V_iushr dJ6_bitCount_0f7a4_27 ?_
  refine V_iadd dJ6_bitCount_0f7a4_28 ?_
  refine V_ldcw dJ6_bitCount_0f7a4_29 qJ6_267 ?_
  refine V_iand dJ6_bitCount_0f7a4_32 ?_
  obtain ⟨x3, qx3, hF⟩ := bnd_g hF
  refine B_istore_n qx3 dJ6_bitCount_0f7a4_33 (by decide) ?_
  refine V_iload_n dJ6_bitCount_0f7a4_34 rfl ?_
  refine V_iload_n dJ6_bitCount_0f7a4_35 rfl ?_
  refine V_bipush (v := 8) dJ6_bitCount_0f7a4_36 (by decide) ?_
  refine V_iushr dJ6_bitCount_0f7a4_38 ?_
  refine V_iadd dJ6_bitCount_0f7a4_39 ?_
  obtain ⟨x4, qx4, hF⟩ := bnd_g hF
  refine B_istore_n qx4 dJ6_bitCount_0f7a4_40 (by decide) ?_
  refine V_iload_n dJ6_bitCount_0f7a4_41 rfl ?_
  refine V_iload_n dJ6_bitCount_0f7a4_42 rfl ?_
  refine V_bipush (v := 16) dJ6_bitCount_0f7a4_43 (by decide) ?_
  refine V_iushr dJ6_bitCount_0f7a4_45 ?_
  refine V_iadd dJ6_bitCount_0f7a4_46 ?_
  obtain ⟨x5, qx5, hF⟩ := bnd_g hF
  refine B_istore_n qx5 dJ6_bitCount_0f7a4_47 (by decide) ?_
  refine V_iload_n dJ6_bitCount_0f7a4_48 rfl ?_
  refine V_bipush (v := 63) dJ6_bitCount_0f7a4_49 (by decide) ?_
  refine V_iand dJ6_bitCount_0f7a4_51 ?_
  cases hF
  exact V_ireturn dJ6_bitCount_0f7a4_52 rfl rfl ⟨rfl, rfl⟩
set_option maxRecDepth 100000 in
set_option maxHeartbeats 4000000 in
theorem s_J9_floorDiv_7cf53 {l : Launch} {s0 : State} {D : va_G} {a0 : Array Value} {sh : List Sh} {f : Nat} {S : St} {p0 : Int32} {p1 : Int32} {r : Int32} (G : GC l s0 D a0) (hF : F_J9_floorDiv_7cf53 sh f S p0 p1 = some r) {d : Nat} (hd : 1 ≤ d) : Sp l s0 D d 0 0 mJ9_floorDiv_7cf53 (fun v h => v = some (.int r) ∧ h = wd s0.heap.size sh S) v_noX [.int p0, .int p1] (wd s0.heap.size sh S) := by
  obtain ⟨d, rfl⟩ : ∃ e, d = e + 1 := ⟨d - 1, by omega⟩
  refine Sp.of (by decide +kernel) rfl (Nat.le_of_ble_eq_true rfl) ?_
  unfold F_J9_floorDiv_7cf53 at hF
  refine V_iload_n dJ9_floorDiv_7cf53_0 rfl ?_
  refine V_iload_n dJ9_floorDiv_7cf53_1 rfl ?_
  obtain ⟨hz, hF⟩ := gv_out hF
  refine V_idiv dJ9_floorDiv_7cf53_2 hz ?_
  obtain ⟨x1, qx1, hF⟩ := bnd_g hF
  refine B_istore_n qx1 dJ9_floorDiv_7cf53_3 (by decide) ?_
  refine V_iload_n dJ9_floorDiv_7cf53_4 rfl ?_
  refine V_iload_n dJ9_floorDiv_7cf53_5 rfl ?_
  refine V_ixor dJ9_floorDiv_7cf53_6 ?_
  refine V_if_ge (tgt := 21) dJ9_floorDiv_7cf53_7 (by decide) (fun c => ?_) (fun c => ?_)
  · replace hF := (if_pos c).symm.trans hF
    refine V_iload_n dJ9_floorDiv_7cf53_21 rfl ?_
    cases hF
    exact V_ireturn dJ9_floorDiv_7cf53_22 rfl rfl ⟨rfl, rfl⟩
  · replace hF := (if_neg c).symm.trans hF
    refine V_iload_n dJ9_floorDiv_7cf53_10 rfl ?_
    refine V_iload_n dJ9_floorDiv_7cf53_11 rfl ?_
    refine V_imul dJ9_floorDiv_7cf53_12 ?_
    refine V_iload_n dJ9_floorDiv_7cf53_13 rfl ?_
    refine V_icmp_eq (tgt := 21) dJ9_floorDiv_7cf53_14 (by decide) (fun c => ?_) (fun c => ?_)
    · replace hF := (if_pos c).symm.trans hF
      refine V_iload_n dJ9_floorDiv_7cf53_21 rfl ?_
      cases hF
      exact V_ireturn dJ9_floorDiv_7cf53_22 rfl rfl ⟨rfl, rfl⟩
    · replace hF := (if_neg c).symm.trans hF
      refine V_iload_n dJ9_floorDiv_7cf53_17 rfl ?_
      refine V_iconst (v := 1) dJ9_floorDiv_7cf53_18 (by decide) ?_
      refine V_isub dJ9_floorDiv_7cf53_19 ?_
      cases hF
      exact V_ireturn dJ9_floorDiv_7cf53_20 rfl rfl ⟨rfl, rfl⟩
set_option maxRecDepth 100000 in
set_option maxHeartbeats 4000000 in
theorem s_J9_floorMod_7cf53 {l : Launch} {s0 : State} {D : va_G} {a0 : Array Value} {sh : List Sh} {f : Nat} {S : St} {p0 : Int32} {p1 : Int32} {r : Int32} (G : GC l s0 D a0) (hF : F_J9_floorMod_7cf53 sh f S p0 p1 = some r) {d : Nat} (hd : 1 ≤ d) : Sp l s0 D d 0 0 mJ9_floorMod_7cf53 (fun v h => v = some (.int r) ∧ h = wd s0.heap.size sh S) v_noX [.int p0, .int p1] (wd s0.heap.size sh S) := by
  obtain ⟨d, rfl⟩ : ∃ e, d = e + 1 := ⟨d - 1, by omega⟩
  refine Sp.of (by decide +kernel) rfl (Nat.le_of_ble_eq_true rfl) ?_
  unfold F_J9_floorMod_7cf53 at hF
  refine V_iload_n dJ9_floorMod_7cf53_0 rfl ?_
  refine V_iload_n dJ9_floorMod_7cf53_1 rfl ?_
  obtain ⟨hz, hF⟩ := gv_out hF
  refine V_irem dJ9_floorMod_7cf53_2 hz ?_
  obtain ⟨x1, qx1, hF⟩ := bnd_g hF
  refine B_istore_n qx1 dJ9_floorMod_7cf53_3 (by decide) ?_
  refine V_iload_n dJ9_floorMod_7cf53_4 rfl ?_
  refine V_iload_n dJ9_floorMod_7cf53_5 rfl ?_
  refine V_ixor dJ9_floorMod_7cf53_6 ?_
  refine V_if_ge (tgt := 18) dJ9_floorMod_7cf53_7 (by decide) (fun c => ?_) (fun c => ?_)
  · replace hF := (if_pos c).symm.trans hF
    refine V_iload_n dJ9_floorMod_7cf53_18 rfl ?_
    cases hF
    exact V_ireturn dJ9_floorMod_7cf53_19 rfl rfl ⟨rfl, rfl⟩
  · replace hF := (if_neg c).symm.trans hF
    refine V_iload_n dJ9_floorMod_7cf53_10 rfl ?_
    refine V_if_eq (tgt := 18) dJ9_floorMod_7cf53_11 (by decide) (fun c => ?_) (fun c => ?_)
    · replace hF := (if_pos c).symm.trans hF
      refine V_iload_n dJ9_floorMod_7cf53_18 rfl ?_
      cases hF
      exact V_ireturn dJ9_floorMod_7cf53_19 rfl rfl ⟨rfl, rfl⟩
    · replace hF := (if_neg c).symm.trans hF
      refine V_iload_n dJ9_floorMod_7cf53_14 rfl ?_
      refine V_iload_n dJ9_floorMod_7cf53_15 rfl ?_
      refine V_iadd dJ9_floorMod_7cf53_16 ?_
      cases hF
      exact V_ireturn dJ9_floorMod_7cf53_17 rfl rfl ⟨rfl, rfl⟩
set_option maxRecDepth 100000 in
set_option maxHeartbeats 4000000 in
theorem s_J9_floorMod_f86c9 {l : Launch} {s0 : State} {D : va_G} {a0 : Array Value} {sh : List Sh} {f : Nat} {S : St} {p0 : Int64} {p2 : Int64} {r : Int64} (G : GC l s0 D a0) (hF : F_J9_floorMod_f86c9 sh f S p0 p2 = some r) {d : Nat} (hd : 1 ≤ d) : Sp l s0 D d 0 0 mJ9_floorMod_f86c9 (fun v h => v = some (.long r) ∧ h = wd s0.heap.size sh S) v_noX [.long p0, .long p2] (wd s0.heap.size sh S) := by
  obtain ⟨d, rfl⟩ : ∃ e, d = e + 1 := ⟨d - 1, by omega⟩
  refine Sp.of (by decide +kernel) rfl (Nat.le_of_ble_eq_true rfl) ?_
  unfold F_J9_floorMod_f86c9 at hF
  refine V_lload_n dJ9_floorMod_f86c9_0 rfl ?_
  refine V_lload_n dJ9_floorMod_f86c9_1 rfl ?_
  obtain ⟨hz, hF⟩ := gv_out hF
  refine V_lrem dJ9_floorMod_f86c9_2 hz ?_
  obtain ⟨x1, qx1, hF⟩ := bnd_g hF
  refine B_lstore qx1 dJ9_floorMod_f86c9_3 (by decide) ?_
  refine V_lload_n dJ9_floorMod_f86c9_5 rfl ?_
  refine V_lload_n dJ9_floorMod_f86c9_6 rfl ?_
  refine V_lxor dJ9_floorMod_f86c9_7 ?_
  refine V_lconst (v := 0) dJ9_floorMod_f86c9_8 (by decide) ?_
  refine V_lcmp dJ9_floorMod_f86c9_9 ?_
  refine V_if_ge (tgt := 25) dJ9_floorMod_f86c9_10 (by decide) (fun c => ?_) (fun c => ?_)
  · replace hF := (if_pos c).symm.trans hF
    refine V_lload dJ9_floorMod_f86c9_25 rfl ?_
    cases hF
    exact V_lreturn dJ9_floorMod_f86c9_27 rfl ⟨rfl, rfl⟩
  · replace hF := (if_neg c).symm.trans hF
    refine V_lload dJ9_floorMod_f86c9_13 rfl ?_
    refine V_lconst (v := 0) dJ9_floorMod_f86c9_15 (by decide) ?_
    refine V_lcmp dJ9_floorMod_f86c9_16 ?_
    refine V_if_eq (tgt := 25) dJ9_floorMod_f86c9_17 (by decide) (fun c => ?_) (fun c => ?_)
    · replace hF := (if_pos c).symm.trans hF
      refine V_lload dJ9_floorMod_f86c9_25 rfl ?_
      cases hF
      exact V_lreturn dJ9_floorMod_f86c9_27 rfl ⟨rfl, rfl⟩
    · replace hF := (if_neg c).symm.trans hF
      refine V_lload dJ9_floorMod_f86c9_20 rfl ?_
      refine V_lload_n dJ9_floorMod_f86c9_22 rfl ?_
      refine V_ladd dJ9_floorMod_f86c9_23 ?_
      cases hF
      exact V_lreturn dJ9_floorMod_f86c9_24 rfl ⟨rfl, rfl⟩
set_option maxRecDepth 100000 in
set_option maxHeartbeats 4000000 in
theorem s_J9_abs_067f4 {l : Launch} {s0 : State} {D : va_G} {a0 : Array Value} {sh : List Sh} {f : Nat} {S : St} {p0 : Int64} {r : Int64} (G : GC l s0 D a0) (hF : F_J9_abs_067f4 sh f S p0 = some r) {d : Nat} (hd : 1 ≤ d) : Sp l s0 D d 0 0 mJ9_abs_067f4 (fun v h => v = some (.long r) ∧ h = wd s0.heap.size sh S) v_noX [.long p0] (wd s0.heap.size sh S) := by
  obtain ⟨d, rfl⟩ : ∃ e, d = e + 1 := ⟨d - 1, by omega⟩
  refine Sp.of (by decide +kernel) rfl (Nat.le_of_ble_eq_true rfl) ?_
  unfold F_J9_abs_067f4 at hF
  refine V_lload_n dJ9_abs_067f4_0 rfl ?_
  refine V_lconst (v := 0) dJ9_abs_067f4_1 (by decide) ?_
  refine V_lcmp dJ9_abs_067f4_2 ?_
  refine V_if_ge (tgt := 11) dJ9_abs_067f4_3 (by decide) (fun c => ?_) (fun c => ?_)
  · replace hF := (if_pos c).symm.trans hF
    refine V_lload_n dJ9_abs_067f4_11 rfl ?_
    cases hF
    exact V_lreturn dJ9_abs_067f4_12 rfl ⟨rfl, rfl⟩
  · replace hF := (if_neg c).symm.trans hF
    refine V_lload_n dJ9_abs_067f4_6 rfl ?_
    refine V_lneg dJ9_abs_067f4_7 ?_
    refine V_goto (tgt := 12) dJ9_abs_067f4_8 (by decide) ?_
    cases hF
    exact V_lreturn dJ9_abs_067f4_12 rfl ⟨rfl, rfl⟩
set_option maxRecDepth 100000 in
set_option maxHeartbeats 4000000 in
theorem s_J9_max_7cf53 {l : Launch} {s0 : State} {D : va_G} {a0 : Array Value} {sh : List Sh} {f : Nat} {S : St} {p0 : Int32} {p1 : Int32} {r : Int32} (G : GC l s0 D a0) (hF : F_J9_max_7cf53 sh f S p0 p1 = some r) {d : Nat} (hd : 1 ≤ d) : Sp l s0 D d 0 0 mJ9_max_7cf53 (fun v h => v = some (.int r) ∧ h = wd s0.heap.size sh S) v_noX [.int p0, .int p1] (wd s0.heap.size sh S) := by
  obtain ⟨d, rfl⟩ : ∃ e, d = e + 1 := ⟨d - 1, by omega⟩
  refine Sp.of (by decide +kernel) rfl (Nat.le_of_ble_eq_true rfl) ?_
  unfold F_J9_max_7cf53 at hF
  refine V_iload_n dJ9_max_7cf53_0 rfl ?_
  refine V_iload_n dJ9_max_7cf53_1 rfl ?_
  refine V_icmp_lt (tgt := 9) dJ9_max_7cf53_2 (by decide) (fun c => ?_) (fun c => ?_)
  · replace hF := (if_pos c).symm.trans hF
    refine V_iload_n dJ9_max_7cf53_9 rfl ?_
    cases hF
    exact V_ireturn dJ9_max_7cf53_10 rfl rfl ⟨rfl, rfl⟩
  · replace hF := (if_neg c).symm.trans hF
    refine V_iload_n dJ9_max_7cf53_5 rfl ?_
    refine V_goto (tgt := 10) dJ9_max_7cf53_6 (by decide) ?_
    cases hF
    exact V_ireturn dJ9_max_7cf53_10 rfl rfl ⟨rfl, rfl⟩
set_option maxRecDepth 100000 in
set_option maxHeartbeats 4000000 in
theorem s_J9_min_7cf53 {l : Launch} {s0 : State} {D : va_G} {a0 : Array Value} {sh : List Sh} {f : Nat} {S : St} {p0 : Int32} {p1 : Int32} {r : Int32} (G : GC l s0 D a0) (hF : F_J9_min_7cf53 sh f S p0 p1 = some r) {d : Nat} (hd : 1 ≤ d) : Sp l s0 D d 0 0 mJ9_min_7cf53 (fun v h => v = some (.int r) ∧ h = wd s0.heap.size sh S) v_noX [.int p0, .int p1] (wd s0.heap.size sh S) := by
  obtain ⟨d, rfl⟩ : ∃ e, d = e + 1 := ⟨d - 1, by omega⟩
  refine Sp.of (by decide +kernel) rfl (Nat.le_of_ble_eq_true rfl) ?_
  unfold F_J9_min_7cf53 at hF
  refine V_iload_n dJ9_min_7cf53_0 rfl ?_
  refine V_iload_n dJ9_min_7cf53_1 rfl ?_
  refine V_icmp_gt (tgt := 9) dJ9_min_7cf53_2 (by decide) (fun c => ?_) (fun c => ?_)
  · replace hF := (if_pos c).symm.trans hF
    refine V_iload_n dJ9_min_7cf53_9 rfl ?_
    cases hF
    exact V_ireturn dJ9_min_7cf53_10 rfl rfl ⟨rfl, rfl⟩
  · replace hF := (if_neg c).symm.trans hF
    refine V_iload_n dJ9_min_7cf53_5 rfl ?_
    refine V_goto (tgt := 10) dJ9_min_7cf53_6 (by decide) ?_
    cases hF
    exact V_ireturn dJ9_min_7cf53_10 rfl rfl ⟨rfl, rfl⟩
set_option maxRecDepth 100000 in
set_option maxHeartbeats 4000000 in
theorem s_J9_min_f86c9 {l : Launch} {s0 : State} {D : va_G} {a0 : Array Value} {sh : List Sh} {f : Nat} {S : St} {p0 : Int64} {p2 : Int64} {r : Int64} (G : GC l s0 D a0) (hF : F_J9_min_f86c9 sh f S p0 p2 = some r) {d : Nat} (hd : 1 ≤ d) : Sp l s0 D d 0 0 mJ9_min_f86c9 (fun v h => v = some (.long r) ∧ h = wd s0.heap.size sh S) v_noX [.long p0, .long p2] (wd s0.heap.size sh S) := by
  obtain ⟨d, rfl⟩ : ∃ e, d = e + 1 := ⟨d - 1, by omega⟩
  refine Sp.of (by decide +kernel) rfl (Nat.le_of_ble_eq_true rfl) ?_
  unfold F_J9_min_f86c9 at hF
  refine V_lload_n dJ9_min_f86c9_0 rfl ?_
  refine V_lload_n dJ9_min_f86c9_1 rfl ?_
  refine V_lcmp dJ9_min_f86c9_2 ?_
  refine V_if_gt (tgt := 10) dJ9_min_f86c9_3 (by decide) (fun c => ?_) (fun c => ?_)
  · replace hF := (if_pos c).symm.trans hF
    refine V_lload_n dJ9_min_f86c9_10 rfl ?_
    cases hF
    exact V_lreturn dJ9_min_f86c9_11 rfl ⟨rfl, rfl⟩
  · replace hF := (if_neg c).symm.trans hF
    refine V_lload_n dJ9_min_f86c9_6 rfl ?_
    refine V_goto (tgt := 11) dJ9_min_f86c9_7 (by decide) ?_
    cases hF
    exact V_lreturn dJ9_min_f86c9_11 rfl ⟨rfl, rfl⟩
set_option maxRecDepth 100000 in
set_option maxHeartbeats 4000000 in
theorem s_X0_clear {l : Launch} {s0 : State} {D : va_G} {a0 : Array Value} {sh : List Sh} {f : Nat} {S : St} {t : Nat} (ht : isX0 sh t) {r : St} (G : GC l s0 D a0) (hF : F_X0_clear sh f S t = some r) {d : Nat} (hd : 1 ≤ d) : Sp l s0 D d 0 0 mX0_clear (fun v h => v = none ∧ h = wd s0.heap.size sh r) v_noX [.ref (s0.heap.size + t)] (wd s0.heap.size sh S) := by
  obtain ⟨d, rfl⟩ : ∃ e, d = e + 1 := ⟨d - 1, by omega⟩
  refine Sp.of (by decide +kernel) rfl (Nat.le_of_ble_eq_true rfl) ?_
  unfold F_X0_clear at hF
  refine V_aload_n dX0_clear_0 rfl ?_
  refine V_iconst (v := 0) dX0_clear_1 (by decide) ?_
  refine X_pI G dX0_clear_2 gX0_40 ht.1 rfl rfl rfl ?_
  obtain ⟨S1, qS1, hF⟩ := bnd_g hF
  refine V_eqS qS1 ?_
  refine V_aload_n dX0_clear_5 rfl ?_
  refine V_iconst (v := 0) dX0_clear_6 (by decide) ?_
  refine X_pI G dX0_clear_7 gX0_44 ht.1 rfl rfl rfl ?_
  obtain ⟨S2, qS2, hF⟩ := bnd_g hF
  refine V_eqS qS2 ?_
  cases hF
  exact V_return dX0_clear_10 rfl ⟨rfl, rfl⟩
set_option maxRecDepth 100000 in
set_option maxHeartbeats 4000000 in
theorem s_X0_isTold {l : Launch} {s0 : State} {D : va_G} {a0 : Array Value} {sh : List Sh} {f : Nat} {S : St} {t : Nat} (ht : isX0 sh t) {r : Int32} (G : GC l s0 D a0) (hF : F_X0_isTold sh f S t = some r) {d : Nat} (hd : 1 ≤ d) : Sp l s0 D d 0 0 mX0_isTold (fun v h => v = some (.int r) ∧ h = wd s0.heap.size sh S) v_noX [.ref (s0.heap.size + t)] (wd s0.heap.size sh S) := by
  obtain ⟨d, rfl⟩ : ∃ e, d = e + 1 := ⟨d - 1, by omega⟩
  refine Sp.of (by decide +kernel) rfl (Nat.le_of_ble_eq_true rfl) ?_
  unfold F_X0_isTold at hF
  refine V_aload_n dX0_isTold_0 rfl ?_
  refine X_gI G dX0_isTold_1 fX0_40 ht.1 rfl ?_
  refine V_if_le (tgt := 11) dX0_isTold_4 (by decide) (fun c => ?_) (fun c => ?_)
  · replace hF := (if_pos c).symm.trans hF
    refine V_iconst (v := 0) dX0_isTold_11 (by decide) ?_
    cases hF
    exact V_ireturn dX0_isTold_12 rfl (by decide) ⟨rfl, rfl⟩
  · replace hF := (if_neg c).symm.trans hF
    refine V_iconst (v := 1) dX0_isTold_7 (by decide) ?_
    refine V_goto (tgt := 12) dX0_isTold_8 (by decide) ?_
    cases hF
    exact V_ireturn dX0_isTold_12 rfl (by decide) ⟨rfl, rfl⟩
set_option maxRecDepth 100000 in
set_option maxHeartbeats 4000000 in
theorem s_X0_hasKind {l : Launch} {s0 : State} {D : va_G} {a0 : Array Value} {sh : List Sh} {f : Nat} {S : St} {t : Nat} {p1 : Int32} (ht : isX0 sh t) {r : Int32} (G : GC l s0 D a0) (hF : F_X0_hasKind sh f S t p1 = some r) {d : Nat} (hd : 1 ≤ d) : Sp l s0 D d 0 0 mX0_hasKind (fun v h => v = some (.int r) ∧ h = wd s0.heap.size sh S) v_noX [.ref (s0.heap.size + t), .int p1] (wd s0.heap.size sh S) := by
  obtain ⟨d, rfl⟩ : ∃ e, d = e + 1 := ⟨d - 1, by omega⟩
  refine Sp.of (by decide +kernel) rfl (Nat.le_of_ble_eq_true rfl) ?_
  unfold F_X0_hasKind at hF
  refine V_iload_n dX0_hasKind_0 rfl ?_
  refine V_if_lt (tgt := 16) dX0_hasKind_1 (by decide) (fun c => ?_) (fun c => ?_)
  · replace hF := (if_pos c).symm.trans hF
    refine V_iconst (v := 0) dX0_hasKind_16 (by decide) ?_
    cases hF
    exact V_ireturn dX0_hasKind_17 rfl (by decide) ⟨rfl, rfl⟩
  · replace hF := (if_neg c).symm.trans hF
    refine V_iload_n dX0_hasKind_4 rfl ?_
    refine V_aload_n dX0_hasKind_5 rfl ?_
    refine X_gI G dX0_hasKind_6 fX0_40 ht.1 rfl ?_
    refine V_icmp_ge (tgt := 16) dX0_hasKind_9 (by decide) (fun c => ?_) (fun c => ?_)
    · replace hF := (if_pos c).symm.trans hF
      refine V_iconst (v := 0) dX0_hasKind_16 (by decide) ?_
      cases hF
      exact V_ireturn dX0_hasKind_17 rfl (by decide) ⟨rfl, rfl⟩
    · replace hF := (if_neg c).symm.trans hF
      refine V_iconst (v := 1) dX0_hasKind_12 (by decide) ?_
      refine V_goto (tgt := 17) dX0_hasKind_13 (by decide) ?_
      cases hF
      exact V_ireturn dX0_hasKind_17 rfl (by decide) ⟨rfl, rfl⟩
set_option maxRecDepth 100000 in
set_option maxHeartbeats 4000000 in
theorem s_X0_ofKind {l : Launch} {s0 : State} {D : va_G} {a0 : Array Value} {sh : List Sh} {f : Nat} {S : St} {t : Nat} {p1 : Int32} {p2 : Int32} (ht : isX0 sh t) {r : Int32} (G : GC l s0 D a0) (hF : F_X0_ofKind sh f S t p1 p2 = some r) {d : Nat} (hd : 2 ≤ d) : Sp l s0 D d 0 0 mX0_ofKind (fun v h => v = some (.int r) ∧ h = wd s0.heap.size sh S) v_noX [.ref (s0.heap.size + t), .int p1, .int p2] (wd s0.heap.size sh S) := by
  obtain ⟨d, rfl⟩ : ∃ e, d = e + 1 := ⟨d - 1, by omega⟩
  refine Sp.of (by decide +kernel) rfl (Nat.le_of_ble_eq_true rfl) ?_
  unfold F_X0_ofKind at hF
  refine V_aload_n dX0_ofKind_0 rfl ?_
  refine V_iload_n dX0_ofKind_1 rfl ?_
  obtain ⟨y1, hc, hF⟩ := bd hF
  refine V_callV G dX0_ofKind_2 kX0_47 (wd_at ht.1) ⟨by decide, rfl⟩ (s_X0_hasKind ht G hc (by omega)) rfl (Nat.le_of_ble_eq_true rfl) (fun _ _ _ q => q.elim) ?_
  rintro _ _ ⟨rfl, rfl⟩
  refine V_if_ne (tgt := 11) dX0_ofKind_5 (by decide) (fun c => ?_) (fun c => ?_)
  · replace hF := (if_neg c).symm.trans hF
    refine V_iload_n dX0_ofKind_11 rfl ?_
    by_cases c0 : p2 = (0 : Int32)
    · replace hF := (if_pos c0).symm.trans hF
      refine V_tableIn (off := 32) (tgt := 44) dX0_ofKind_12 (by rw [c0]; decide) (by rw [c0]; decide) (by rw [c0]; decide) (by decide) ?_
      refine V_aload_n dX0_ofKind_44 rfl ?_
      refine X_gC G dX0_ofKind_45 fX0_15 ht.1 rfl ?_
      refine V_iload_n dX0_ofKind_48 rfl ?_
      obtain ⟨hz, hF⟩ := gv_out hF
      refine X_iald dX0_ofKind_49 ht.2.2.1 hz ?_
      cases hF
      exact V_ireturn dX0_ofKind_50 rfl rfl ⟨rfl, rfl⟩
    replace hF := (if_neg c0).symm.trans hF
    by_cases c1 : p2 = (1 : Int32)
    · replace hF := (if_pos c1).symm.trans hF
      refine V_tableIn (off := 39) (tgt := 51) dX0_ofKind_12 (by rw [c1]; decide) (by rw [c1]; decide) (by rw [c1]; decide) (by decide) ?_
      refine V_aload_n dX0_ofKind_51 rfl ?_
      refine X_gC G dX0_ofKind_52 fX0_19 ht.1 rfl ?_
      refine V_iload_n dX0_ofKind_55 rfl ?_
      obtain ⟨hz, hF⟩ := gv_out hF
      refine X_iald dX0_ofKind_56 ht.2.2.2.1 hz ?_
      cases hF
      exact V_ireturn dX0_ofKind_57 rfl rfl ⟨rfl, rfl⟩
    replace hF := (if_neg c1).symm.trans hF
    by_cases c2 : p2 = (2 : Int32)
    · replace hF := (if_pos c2).symm.trans hF
      refine V_tableIn (off := 46) (tgt := 58) dX0_ofKind_12 (by rw [c2]; decide) (by rw [c2]; decide) (by rw [c2]; decide) (by decide) ?_
      refine V_aload_n dX0_ofKind_58 rfl ?_
      refine X_gC G dX0_ofKind_59 fX0_22 ht.1 rfl ?_
      refine V_iload_n dX0_ofKind_62 rfl ?_
      obtain ⟨hz, hF⟩ := gv_out hF
      refine X_iald dX0_ofKind_63 ht.2.2.2.2.1 hz ?_
      cases hF
      exact V_ireturn dX0_ofKind_64 rfl rfl ⟨rfl, rfl⟩
    replace hF := (if_neg c2).symm.trans hF
    by_cases c3 : p2 = (3 : Int32)
    · replace hF := (if_pos c3).symm.trans hF
      refine V_tableIn (off := 53) (tgt := 65) dX0_ofKind_12 (by rw [c3]; decide) (by rw [c3]; decide) (by rw [c3]; decide) (by decide) ?_
      refine V_aload_n dX0_ofKind_65 rfl ?_
      refine X_gC G dX0_ofKind_66 fX0_25 ht.1 rfl ?_
      refine V_iload_n dX0_ofKind_69 rfl ?_
      obtain ⟨hz, hF⟩ := gv_out hF
      refine X_iald dX0_ofKind_70 ht.2.2.2.2.2.1 hz ?_
      cases hF
      exact V_ireturn dX0_ofKind_71 rfl rfl ⟨rfl, rfl⟩
    replace hF := (if_neg c3).symm.trans hF
    refine V_tableOut (tgt := 72) dX0_ofKind_12 (by have e0 := ts_ne c0 (n := 0) (by decide); have e1 := ts_ne c1 (n := 1) (by decide); have e2 := ts_ne c2 (n := 2) (by decide); have e3 := ts_ne c3 (n := 3) (by decide); omega) (by decide) ?_
    refine V_ldc dX0_ofKind_72 qX0_51 ?_
    cases hF
    exact V_ireturn dX0_ofKind_74 rfl rfl ⟨rfl, rfl⟩
  · replace hF := (if_pos c).symm.trans hF
    refine V_ldc dX0_ofKind_8 qX0_51 ?_
    cases hF
    exact V_ireturn dX0_ofKind_10 rfl rfl ⟨rfl, rfl⟩
set_option maxRecDepth 100000 in
set_option maxHeartbeats 4000000 in
theorem s_X0_ofRule {l : Launch} {s0 : State} {D : va_G} {a0 : Array Value} {sh : List Sh} {f : Nat} {S : St} {t : Nat} {p1 : Int32} {p2 : Int32} (ht : isX0 sh t) {r : Int32} (G : GC l s0 D a0) (hF : F_X0_ofRule sh f S t p1 p2 = some r) {d : Nat} (hd : 1 ≤ d) : Sp l s0 D d 0 0 mX0_ofRule (fun v h => v = some (.int r) ∧ h = wd s0.heap.size sh S) v_noX [.ref (s0.heap.size + t), .int p1, .int p2] (wd s0.heap.size sh S) := by
  obtain ⟨d, rfl⟩ : ∃ e, d = e + 1 := ⟨d - 1, by omega⟩
  refine Sp.of (by decide +kernel) rfl (Nat.le_of_ble_eq_true rfl) ?_
  unfold F_X0_ofRule at hF
  refine V_iload_n dX0_ofRule_0 rfl ?_
  refine V_if_lt (tgt := 12) dX0_ofRule_1 (by decide) (fun c => ?_) (fun c => ?_)
  · replace hF := (if_pos c).symm.trans hF
    refine V_ldc dX0_ofRule_12 qX0_51 ?_
    cases hF
    exact V_ireturn dX0_ofRule_14 rfl rfl ⟨rfl, rfl⟩
  · replace hF := (if_neg c).symm.trans hF
    refine V_iload_n dX0_ofRule_4 rfl ?_
    refine V_aload_n dX0_ofRule_5 rfl ?_
    refine X_gI G dX0_ofRule_6 fX0_44 ht.1 rfl ?_
    refine V_icmp_lt (tgt := 15) dX0_ofRule_9 (by decide) (fun c => ?_) (fun c => ?_)
    · replace hF := (if_pos c).symm.trans hF
      refine V_iload_n dX0_ofRule_15 rfl ?_
      by_cases c0 : p2 = (0 : Int32)
      · replace hF := (if_pos c0).symm.trans hF
        refine V_tableIn (off := 44) (tgt := 60) dX0_ofRule_16 (by rw [c0]; decide) (by rw [c0]; decide) (by rw [c0]; decide) (by decide) ?_
        refine V_aload_n dX0_ofRule_60 rfl ?_
        refine X_gC G dX0_ofRule_61 fX0_28 ht.1 rfl ?_
        refine V_iload_n dX0_ofRule_64 rfl ?_
        obtain ⟨hz, hF⟩ := gv_out hF
        refine X_iald dX0_ofRule_65 ht.2.2.2.2.2.2.1 hz ?_
        cases hF
        exact V_ireturn dX0_ofRule_66 rfl rfl ⟨rfl, rfl⟩
      replace hF := (if_neg c0).symm.trans hF
      by_cases c1 : p2 = (1 : Int32)
      · replace hF := (if_pos c1).symm.trans hF
        refine V_tableIn (off := 51) (tgt := 67) dX0_ofRule_16 (by rw [c1]; decide) (by rw [c1]; decide) (by rw [c1]; decide) (by decide) ?_
        refine V_aload_n dX0_ofRule_67 rfl ?_
        refine X_gC G dX0_ofRule_68 fX0_31 ht.1 rfl ?_
        refine V_iload_n dX0_ofRule_71 rfl ?_
        obtain ⟨hz, hF⟩ := gv_out hF
        refine X_iald dX0_ofRule_72 ht.2.2.2.2.2.2.2.1 hz ?_
        cases hF
        exact V_ireturn dX0_ofRule_73 rfl rfl ⟨rfl, rfl⟩
      replace hF := (if_neg c1).symm.trans hF
      by_cases c2 : p2 = (2 : Int32)
      · replace hF := (if_pos c2).symm.trans hF
        refine V_tableIn (off := 58) (tgt := 74) dX0_ofRule_16 (by rw [c2]; decide) (by rw [c2]; decide) (by rw [c2]; decide) (by decide) ?_
        refine V_aload_n dX0_ofRule_74 rfl ?_
        refine X_gC G dX0_ofRule_75 fX0_34 ht.1 rfl ?_
        refine V_iload_n dX0_ofRule_78 rfl ?_
        obtain ⟨hz, hF⟩ := gv_out hF
        refine X_iald dX0_ofRule_79 ht.2.2.2.2.2.2.2.2.1 hz ?_
        cases hF
        exact V_ireturn dX0_ofRule_80 rfl rfl ⟨rfl, rfl⟩
      replace hF := (if_neg c2).symm.trans hF
      by_cases c3 : p2 = (3 : Int32)
      · replace hF := (if_pos c3).symm.trans hF
        refine V_tableIn (off := 65) (tgt := 81) dX0_ofRule_16 (by rw [c3]; decide) (by rw [c3]; decide) (by rw [c3]; decide) (by decide) ?_
        refine V_iload_n dX0_ofRule_81 rfl ?_
        refine V_iconst (v := 3) dX0_ofRule_82 (by decide) ?_
        refine V_isub dX0_ofRule_83 ?_
        refine V_aload_n dX0_ofRule_84 rfl ?_
        refine X_gC G dX0_ofRule_85 fX0_28 ht.1 rfl ?_
        refine V_iload_n dX0_ofRule_88 rfl ?_
        obtain ⟨hz, hF⟩ := gv_out hF
        refine X_iald dX0_ofRule_89 ht.2.2.2.2.2.2.1 hz ?_
        refine V_icmp_ge (tgt := 108) dX0_ofRule_90 (by decide) (fun c => ?_) (fun c => ?_)
        · replace hF := (if_pos c).symm.trans hF
          refine V_bipush (v := -2) dX0_ofRule_108 (by decide) ?_
          cases hF
          exact V_ireturn dX0_ofRule_110 rfl rfl ⟨rfl, rfl⟩
        · replace hF := (if_neg c).symm.trans hF
          refine V_aload_n dX0_ofRule_93 rfl ?_
          refine X_gC G dX0_ofRule_94 fX0_37 ht.1 rfl ?_
          refine V_iload_n dX0_ofRule_97 rfl ?_
          refine V_iconst (v := 4) dX0_ofRule_98 (by decide) ?_
          refine V_imul dX0_ofRule_99 ?_
          refine V_iload_n dX0_ofRule_100 rfl ?_
          refine V_iadd dX0_ofRule_101 ?_
          refine V_iconst (v := 3) dX0_ofRule_102 (by decide) ?_
          refine V_isub dX0_ofRule_103 ?_
          obtain ⟨hz, hF⟩ := gv_out hF
          refine X_iald dX0_ofRule_104 ht.2.2.2.2.2.2.2.2.2 hz ?_
          refine V_goto (tgt := 110) dX0_ofRule_105 (by decide) ?_
          cases hF
          exact V_ireturn dX0_ofRule_110 rfl rfl ⟨rfl, rfl⟩
      replace hF := (if_neg c3).symm.trans hF
      by_cases c4 : p2 = (4 : Int32)
      · replace hF := (if_pos c4).symm.trans hF
        refine V_tableIn (off := 65) (tgt := 81) dX0_ofRule_16 (by rw [c4]; decide) (by rw [c4]; decide) (by rw [c4]; decide) (by decide) ?_
        refine V_iload_n dX0_ofRule_81 rfl ?_
        refine V_iconst (v := 3) dX0_ofRule_82 (by decide) ?_
        refine V_isub dX0_ofRule_83 ?_
        refine V_aload_n dX0_ofRule_84 rfl ?_
        refine X_gC G dX0_ofRule_85 fX0_28 ht.1 rfl ?_
        refine V_iload_n dX0_ofRule_88 rfl ?_
        obtain ⟨hz, hF⟩ := gv_out hF
        refine X_iald dX0_ofRule_89 ht.2.2.2.2.2.2.1 hz ?_
        refine V_icmp_ge (tgt := 108) dX0_ofRule_90 (by decide) (fun c => ?_) (fun c => ?_)
        · replace hF := (if_pos c).symm.trans hF
          refine V_bipush (v := -2) dX0_ofRule_108 (by decide) ?_
          cases hF
          exact V_ireturn dX0_ofRule_110 rfl rfl ⟨rfl, rfl⟩
        · replace hF := (if_neg c).symm.trans hF
          refine V_aload_n dX0_ofRule_93 rfl ?_
          refine X_gC G dX0_ofRule_94 fX0_37 ht.1 rfl ?_
          refine V_iload_n dX0_ofRule_97 rfl ?_
          refine V_iconst (v := 4) dX0_ofRule_98 (by decide) ?_
          refine V_imul dX0_ofRule_99 ?_
          refine V_iload_n dX0_ofRule_100 rfl ?_
          refine V_iadd dX0_ofRule_101 ?_
          refine V_iconst (v := 3) dX0_ofRule_102 (by decide) ?_
          refine V_isub dX0_ofRule_103 ?_
          obtain ⟨hz, hF⟩ := gv_out hF
          refine X_iald dX0_ofRule_104 ht.2.2.2.2.2.2.2.2.2 hz ?_
          refine V_goto (tgt := 110) dX0_ofRule_105 (by decide) ?_
          cases hF
          exact V_ireturn dX0_ofRule_110 rfl rfl ⟨rfl, rfl⟩
      replace hF := (if_neg c4).symm.trans hF
      by_cases c5 : p2 = (5 : Int32)
      · replace hF := (if_pos c5).symm.trans hF
        refine V_tableIn (off := 65) (tgt := 81) dX0_ofRule_16 (by rw [c5]; decide) (by rw [c5]; decide) (by rw [c5]; decide) (by decide) ?_
        refine V_iload_n dX0_ofRule_81 rfl ?_
        refine V_iconst (v := 3) dX0_ofRule_82 (by decide) ?_
        refine V_isub dX0_ofRule_83 ?_
        refine V_aload_n dX0_ofRule_84 rfl ?_
        refine X_gC G dX0_ofRule_85 fX0_28 ht.1 rfl ?_
        refine V_iload_n dX0_ofRule_88 rfl ?_
        obtain ⟨hz, hF⟩ := gv_out hF
        refine X_iald dX0_ofRule_89 ht.2.2.2.2.2.2.1 hz ?_
        refine V_icmp_ge (tgt := 108) dX0_ofRule_90 (by decide) (fun c => ?_) (fun c => ?_)
        · replace hF := (if_pos c).symm.trans hF
          refine V_bipush (v := -2) dX0_ofRule_108 (by decide) ?_
          cases hF
          exact V_ireturn dX0_ofRule_110 rfl rfl ⟨rfl, rfl⟩
        · replace hF := (if_neg c).symm.trans hF
          refine V_aload_n dX0_ofRule_93 rfl ?_
          refine X_gC G dX0_ofRule_94 fX0_37 ht.1 rfl ?_
          refine V_iload_n dX0_ofRule_97 rfl ?_
          refine V_iconst (v := 4) dX0_ofRule_98 (by decide) ?_
          refine V_imul dX0_ofRule_99 ?_
          refine V_iload_n dX0_ofRule_100 rfl ?_
          refine V_iadd dX0_ofRule_101 ?_
          refine V_iconst (v := 3) dX0_ofRule_102 (by decide) ?_
          refine V_isub dX0_ofRule_103 ?_
          obtain ⟨hz, hF⟩ := gv_out hF
          refine X_iald dX0_ofRule_104 ht.2.2.2.2.2.2.2.2.2 hz ?_
          refine V_goto (tgt := 110) dX0_ofRule_105 (by decide) ?_
          cases hF
          exact V_ireturn dX0_ofRule_110 rfl rfl ⟨rfl, rfl⟩
      replace hF := (if_neg c5).symm.trans hF
      by_cases c6 : p2 = (6 : Int32)
      · replace hF := (if_pos c6).symm.trans hF
        refine V_tableIn (off := 65) (tgt := 81) dX0_ofRule_16 (by rw [c6]; decide) (by rw [c6]; decide) (by rw [c6]; decide) (by decide) ?_
        refine V_iload_n dX0_ofRule_81 rfl ?_
        refine V_iconst (v := 3) dX0_ofRule_82 (by decide) ?_
        refine V_isub dX0_ofRule_83 ?_
        refine V_aload_n dX0_ofRule_84 rfl ?_
        refine X_gC G dX0_ofRule_85 fX0_28 ht.1 rfl ?_
        refine V_iload_n dX0_ofRule_88 rfl ?_
        obtain ⟨hz, hF⟩ := gv_out hF
        refine X_iald dX0_ofRule_89 ht.2.2.2.2.2.2.1 hz ?_
        refine V_icmp_ge (tgt := 108) dX0_ofRule_90 (by decide) (fun c => ?_) (fun c => ?_)
        · replace hF := (if_pos c).symm.trans hF
          refine V_bipush (v := -2) dX0_ofRule_108 (by decide) ?_
          cases hF
          exact V_ireturn dX0_ofRule_110 rfl rfl ⟨rfl, rfl⟩
        · replace hF := (if_neg c).symm.trans hF
          refine V_aload_n dX0_ofRule_93 rfl ?_
          refine X_gC G dX0_ofRule_94 fX0_37 ht.1 rfl ?_
          refine V_iload_n dX0_ofRule_97 rfl ?_
          refine V_iconst (v := 4) dX0_ofRule_98 (by decide) ?_
          refine V_imul dX0_ofRule_99 ?_
          refine V_iload_n dX0_ofRule_100 rfl ?_
          refine V_iadd dX0_ofRule_101 ?_
          refine V_iconst (v := 3) dX0_ofRule_102 (by decide) ?_
          refine V_isub dX0_ofRule_103 ?_
          obtain ⟨hz, hF⟩ := gv_out hF
          refine X_iald dX0_ofRule_104 ht.2.2.2.2.2.2.2.2.2 hz ?_
          refine V_goto (tgt := 110) dX0_ofRule_105 (by decide) ?_
          cases hF
          exact V_ireturn dX0_ofRule_110 rfl rfl ⟨rfl, rfl⟩
      replace hF := (if_neg c6).symm.trans hF
      refine V_tableOut (tgt := 111) dX0_ofRule_16 (by have e0 := ts_ne c0 (n := 0) (by decide); have e1 := ts_ne c1 (n := 1) (by decide); have e2 := ts_ne c2 (n := 2) (by decide); have e3 := ts_ne c3 (n := 3) (by decide); have e4 := ts_ne c4 (n := 4) (by decide); have e5 := ts_ne c5 (n := 5) (by decide); have e6 := ts_ne c6 (n := 6) (by decide); omega) (by decide) ?_
      refine V_ldc dX0_ofRule_111 qX0_51 ?_
      cases hF
      exact V_ireturn dX0_ofRule_113 rfl rfl ⟨rfl, rfl⟩
    · replace hF := (if_neg c).symm.trans hF
      refine V_ldc dX0_ofRule_12 qX0_51 ?_
      cases hF
      exact V_ireturn dX0_ofRule_14 rfl rfl ⟨rfl, rfl⟩
set_option maxRecDepth 100000 in
set_option maxHeartbeats 4000000 in
theorem s_X0_isHalf {l : Launch} {s0 : State} {D : va_G} {a0 : Array Value} {sh : List Sh} {f : Nat} {S : St} {t : Nat} {p1 : Int32} (ht : isX0 sh t) {r : Int32} (G : GC l s0 D a0) (hF : F_X0_isHalf sh f S t p1 = some r) {d : Nat} (hd : 2 ≤ d) : Sp l s0 D d 0 0 mX0_isHalf (fun v h => v = some (.int r) ∧ h = wd s0.heap.size sh S) v_noX [.ref (s0.heap.size + t), .int p1] (wd s0.heap.size sh S) := by
  obtain ⟨d, rfl⟩ : ∃ e, d = e + 1 := ⟨d - 1, by omega⟩
  refine Sp.of (by decide +kernel) rfl (Nat.le_of_ble_eq_true rfl) ?_
  unfold F_X0_isHalf at hF
  refine V_aload_n dX0_isHalf_0 rfl ?_
  refine V_iload_n dX0_isHalf_1 rfl ?_
  obtain ⟨y1, hc, hF⟩ := bd hF
  refine V_callV G dX0_isHalf_2 kX0_47 (wd_at ht.1) ⟨by decide, rfl⟩ (s_X0_hasKind ht G hc (by omega)) rfl (Nat.le_of_ble_eq_true rfl) (fun _ _ _ q => q.elim) ?_
  rintro _ _ ⟨rfl, rfl⟩
  refine V_if_eq (tgt := 22) dX0_isHalf_5 (by decide) (fun c => ?_) (fun c => ?_)
  · replace hF := (if_pos c).symm.trans hF
    refine V_iconst (v := 0) dX0_isHalf_22 (by decide) ?_
    cases hF
    exact V_ireturn dX0_isHalf_23 rfl (by decide) ⟨rfl, rfl⟩
  · replace hF := (if_neg c).symm.trans hF
    refine V_aload_n dX0_isHalf_8 rfl ?_
    refine X_gC G dX0_isHalf_9 fX0_25 ht.1 rfl ?_
    refine V_iload_n dX0_isHalf_12 rfl ?_
    obtain ⟨hz, hF⟩ := gv_out hF
    refine X_iald dX0_isHalf_13 ht.2.2.2.2.2.1 hz ?_
    refine V_iconst (v := 2) dX0_isHalf_14 (by decide) ?_
    refine V_icmp_ne (tgt := 22) dX0_isHalf_15 (by decide) (fun c => ?_) (fun c => ?_)
    · replace hF := (if_neg c).symm.trans hF
      refine V_iconst (v := 0) dX0_isHalf_22 (by decide) ?_
      cases hF
      exact V_ireturn dX0_isHalf_23 rfl (by decide) ⟨rfl, rfl⟩
    · replace hF := (if_pos c).symm.trans hF
      refine V_iconst (v := 1) dX0_isHalf_18 (by decide) ?_
      refine V_goto (tgt := 23) dX0_isHalf_19 (by decide) ?_
      cases hF
      exact V_ireturn dX0_isHalf_23 rfl (by decide) ⟨rfl, rfl⟩
set_option maxRecDepth 100000 in
set_option maxHeartbeats 4000000 in
theorem w_X0_areEven_L9 {l : Launch} {s0 : State} {D : va_G} {a0 : Array Value} {sh : List Sh} {f : Nat} {S : St} {t : Nat} {p1 n1 : Nat} {p2 : Int32} {p3 : Int32} (ht : isX0 sh t) (hp1 : sh[p1]? = some (.inl (.int, n1))) {r : Int32} {d : Nat} (G : GC l s0 D a0) (hd : 3 ≤ d + 1) : ∀ (n : Nat) (l4 : Int32) (l5 : Int32) (l6 : Int32), F_X0_areEven_L9 sh f S t p1 n1 p2 p3 n l4 l5 l6 = some r → V l s0 D (d + 1) 0 0 mX0_areEven (fun v h => v = some (.int r) ∧ h = wd s0.heap.size sh S) v_noX 9 [(0, .ref (s0.heap.size + t)), (1, .ref (s0.heap.size + p1)), (2, .int p2), (3, .int p3), (4, .int l4), (5, .int l5), (6, .int l6)] [] (wd s0.heap.size sh S) := by
  intro n
  induction n with
  | zero => intro l4 l5 l6 hF; cases hF
  | succ n ih =>
    intro l4 l5 l6 hF
    unfold F_X0_areEven_L9 at hF
    refine V_iload dX0_areEven_9 rfl ?_
    refine V_iload_n dX0_areEven_11 rfl ?_
    refine V_iload_n dX0_areEven_12 rfl ?_
    refine V_iadd dX0_areEven_13 ?_
    refine V_icmp_ge (tgt := 81) dX0_areEven_14 (by decide) (fun c => ?_) (fun c => ?_)
    · replace hF := (if_pos c).symm.trans hF
      refine V_iload dX0_areEven_81 rfl ?_
      refine V_if_ne (tgt := 97) dX0_areEven_83 (by decide) (fun c => ?_) (fun c => ?_)
      · replace hF := (if_neg c).symm.trans hF
        refine V_iconst (v := 0) dX0_areEven_97 (by decide) ?_
        cases hF
        exact V_ireturn dX0_areEven_98 rfl (by decide) ⟨rfl, rfl⟩
      · replace hF := (if_pos c).symm.trans hF
        refine V_iload dX0_areEven_86 rfl ?_
        refine V_iconst (v := 2) dX0_areEven_88 (by decide) ?_
        refine V_irem dX0_areEven_89 (by decide) ?_
        refine V_if_ne (tgt := 97) dX0_areEven_90 (by decide) (fun c => ?_) (fun c => ?_)
        · replace hF := (if_neg c).symm.trans hF
          refine V_iconst (v := 0) dX0_areEven_97 (by decide) ?_
          cases hF
          exact V_ireturn dX0_areEven_98 rfl (by decide) ⟨rfl, rfl⟩
        · replace hF := (if_pos c).symm.trans hF
          refine V_iconst (v := 1) dX0_areEven_93 (by decide) ?_
          refine V_goto (tgt := 98) dX0_areEven_94 (by decide) ?_
          cases hF
          exact V_ireturn dX0_areEven_98 rfl (by decide) ⟨rfl, rfl⟩
    · replace hF := (if_neg c).symm.trans hF
      refine V_iload dX0_areEven_17 rfl ?_
      refine V_aload_n dX0_areEven_19 rfl ?_
      refine X_alen dX0_areEven_20 hp1 ?_
      refine V_icmp_ge (tgt := 81) dX0_areEven_21 (by decide) (fun c => ?_) (fun c => ?_)
      · replace hF := (if_pos c).symm.trans hF
        refine V_iload dX0_areEven_81 rfl ?_
        refine V_if_ne (tgt := 97) dX0_areEven_83 (by decide) (fun c => ?_) (fun c => ?_)
        · replace hF := (if_neg c).symm.trans hF
          refine V_iconst (v := 0) dX0_areEven_97 (by decide) ?_
          cases hF
          exact V_ireturn dX0_areEven_98 rfl (by decide) ⟨rfl, rfl⟩
        · replace hF := (if_pos c).symm.trans hF
          refine V_iload dX0_areEven_86 rfl ?_
          refine V_iconst (v := 2) dX0_areEven_88 (by decide) ?_
          refine V_irem dX0_areEven_89 (by decide) ?_
          refine V_if_ne (tgt := 97) dX0_areEven_90 (by decide) (fun c => ?_) (fun c => ?_)
          · replace hF := (if_neg c).symm.trans hF
            refine V_iconst (v := 0) dX0_areEven_97 (by decide) ?_
            cases hF
            exact V_ireturn dX0_areEven_98 rfl (by decide) ⟨rfl, rfl⟩
          · replace hF := (if_pos c).symm.trans hF
            refine V_iconst (v := 1) dX0_areEven_93 (by decide) ?_
            refine V_goto (tgt := 98) dX0_areEven_94 (by decide) ?_
            cases hF
            exact V_ireturn dX0_areEven_98 rfl (by decide) ⟨rfl, rfl⟩
      · replace hF := (if_neg c).symm.trans hF
        refine V_iload dX0_areEven_24 rfl ?_
        refine V_if_lt (tgt := 75) dX0_areEven_26 (by decide) (fun c => ?_) (fun c => ?_)
        · replace hF := (if_pos c).symm.trans hF
          obtain ⟨x1, qx1, hF⟩ := bnd_g hF
          refine B_iinc (v := 1) qx1 dX0_areEven_75 rfl (by decide) (by decide) ?_
          refine V_goto (tgt := 9) dX0_areEven_78 (by decide) ?_
          exact V_lv' (ih _ _ _ hF) (v_all_c rfl (v_all_c rfl (v_all_c rfl (v_all_c rfl (v_all_c rfl (v_all_c rfl (v_all_c rfl v_all_n)))))))
        · replace hF := (if_neg c).symm.trans hF
          refine V_aload_n dX0_areEven_29 rfl ?_
          refine V_aload_n dX0_areEven_30 rfl ?_
          refine V_iload dX0_areEven_31 rfl ?_
          obtain ⟨hz, hF⟩ := gv_out hF
          refine X_iald dX0_areEven_33 hp1 hz ?_
          obtain ⟨y2, hc, hF⟩ := bd hF
          refine V_callV G dX0_areEven_34 kX0_47 (wd_at ht.1) ⟨by decide, rfl⟩ (s_X0_hasKind ht G hc (by omega)) rfl (Nat.le_of_ble_eq_true rfl) (fun _ _ _ q => q.elim) ?_
          rintro _ _ ⟨rfl, rfl⟩
          refine V_if_eq (tgt := 75) dX0_areEven_37 (by decide) (fun c => ?_) (fun c => ?_)
          · replace hF := (if_pos c).symm.trans hF
            obtain ⟨x3, qx3, hF⟩ := bnd_g hF
            refine B_iinc (v := 1) qx3 dX0_areEven_75 rfl (by decide) (by decide) ?_
            refine V_goto (tgt := 9) dX0_areEven_78 (by decide) ?_
            exact V_lv' (ih _ _ _ hF) (v_all_c rfl (v_all_c rfl (v_all_c rfl (v_all_c rfl (v_all_c rfl (v_all_c rfl (v_all_c rfl v_all_n)))))))
          · replace hF := (if_neg c).symm.trans hF
            refine V_iload dX0_areEven_40 rfl ?_
            refine V_aload_n dX0_areEven_42 rfl ?_
            refine X_gC G dX0_areEven_43 fX0_22 ht.1 rfl ?_
            refine V_aload_n dX0_areEven_46 rfl ?_
            refine V_iload dX0_areEven_47 rfl ?_
            obtain ⟨hz, hF⟩ := gv_out hF
            refine X_iald dX0_areEven_49 hp1 hz ?_
            obtain ⟨hz, hF⟩ := gv_out hF
            refine X_iald dX0_areEven_50 ht.2.2.2.2.1 hz ?_
            refine V_iadd dX0_areEven_51 ?_
            obtain ⟨x4, qx4, hF⟩ := bnd_g hF
            refine B_istore qx4 dX0_areEven_52 (by decide) ?_
            refine V_iload dX0_areEven_54 rfl ?_
            refine V_aload_n dX0_areEven_56 rfl ?_
            refine V_aload_n dX0_areEven_57 rfl ?_
            refine V_iload dX0_areEven_58 rfl ?_
            obtain ⟨hz, hF⟩ := gv_out hF
            refine X_iald dX0_areEven_60 hp1 hz ?_
            obtain ⟨y5, hc, hF⟩ := bd hF
            refine V_callV G dX0_areEven_61 kX0_52 (wd_at ht.1) ⟨by decide, rfl⟩ (s_X0_isHalf ht G hc (by omega)) rfl (Nat.le_of_ble_eq_true rfl) (fun _ _ _ q => q.elim) ?_
            rintro _ _ ⟨rfl, rfl⟩
            refine V_if_eq (tgt := 71) dX0_areEven_64 (by decide) (fun c => ?_) (fun c => ?_)
            · replace hF := (if_pos c).symm.trans hF
              refine V_iconst (v := 0) dX0_areEven_71 (by decide) ?_
              refine V_iadd dX0_areEven_72 ?_
              obtain ⟨x6, qx6, hF⟩ := bnd_g hF
              refine B_istore qx6 dX0_areEven_73 (by decide) ?_
              obtain ⟨x7, qx7, hF⟩ := bnd_g hF
              refine B_iinc (v := 1) qx7 dX0_areEven_75 rfl (by decide) (by decide) ?_
              refine V_goto (tgt := 9) dX0_areEven_78 (by decide) ?_
              exact V_lv' (ih _ _ _ hF) (v_all_c rfl (v_all_c rfl (v_all_c rfl (v_all_c rfl (v_all_c rfl (v_all_c rfl (v_all_c rfl v_all_n)))))))
            · replace hF := (if_neg c).symm.trans hF
              refine V_iconst (v := 1) dX0_areEven_67 (by decide) ?_
              refine V_goto (tgt := 72) dX0_areEven_68 (by decide) ?_
              refine V_iadd dX0_areEven_72 ?_
              obtain ⟨x8, qx8, hF⟩ := bnd_g hF
              refine B_istore qx8 dX0_areEven_73 (by decide) ?_
              obtain ⟨x9, qx9, hF⟩ := bnd_g hF
              refine B_iinc (v := 1) qx9 dX0_areEven_75 rfl (by decide) (by decide) ?_
              refine V_goto (tgt := 9) dX0_areEven_78 (by decide) ?_
              exact V_lv' (ih _ _ _ hF) (v_all_c rfl (v_all_c rfl (v_all_c rfl (v_all_c rfl (v_all_c rfl (v_all_c rfl (v_all_c rfl v_all_n)))))))
set_option maxRecDepth 100000 in
set_option maxHeartbeats 4000000 in
theorem s_X0_areEven {l : Launch} {s0 : State} {D : va_G} {a0 : Array Value} {sh : List Sh} {f : Nat} {S : St} {t : Nat} {p1 n1 : Nat} {p2 : Int32} {p3 : Int32} (ht : isX0 sh t) (hp1 : sh[p1]? = some (.inl (.int, n1))) {r : Int32} (G : GC l s0 D a0) (hF : F_X0_areEven sh f S t p1 n1 p2 p3 = some r) {d : Nat} (hd : 3 ≤ d) : Sp l s0 D d 0 0 mX0_areEven (fun v h => v = some (.int r) ∧ h = wd s0.heap.size sh S) v_noX [.ref (s0.heap.size + t), .ref (s0.heap.size + p1), .int p2, .int p3] (wd s0.heap.size sh S) := by
  obtain ⟨d, rfl⟩ : ∃ e, d = e + 1 := ⟨d - 1, by omega⟩
  refine Sp.of (by decide +kernel) rfl (Nat.le_of_ble_eq_true rfl) ?_
  unfold F_X0_areEven at hF
  refine V_iconst (v := 0) dX0_areEven_0 (by decide) ?_
  refine V_istore dX0_areEven_1 (by decide) ?_
  refine V_iconst (v := 0) dX0_areEven_3 (by decide) ?_
  refine V_istore dX0_areEven_4 (by decide) ?_
  refine V_iload_n dX0_areEven_6 rfl ?_
  refine V_istore dX0_areEven_7 (by decide) ?_
  exact V_lv' (w_X0_areEven_L9 ht hp1 G hd f _ _ _ hF) (v_all_c rfl (v_all_c rfl (v_all_c rfl (v_all_c rfl (v_all_c rfl (v_all_c rfl (v_all_c rfl v_all_n)))))))
set_option maxRecDepth 100000 in
set_option maxHeartbeats 4000000 in
theorem w_X0_findKind_L2 {l : Launch} {s0 : State} {D : va_G} {a0 : Array Value} {sh : List Sh} {f : Nat} {S : St} {t : Nat} {p1 : Int64} (ht : isX0 sh t) {r : Int32} {d : Nat} (G : GC l s0 D a0) (hd : 1 ≤ d + 1) : ∀ (n : Nat) (l3 : Int32), F_X0_findKind_L2 sh f S t p1 n l3 = some r → V l s0 D (d + 1) 0 0 mX0_findKind (fun v h => v = some (.int r) ∧ h = wd s0.heap.size sh S) v_noX 2 [(0, .ref (s0.heap.size + t)), (1, .long p1), (3, .int l3)] [] (wd s0.heap.size sh S) := by
  intro n
  induction n with
  | zero => intro l3 hF; cases hF
  | succ n ih =>
    intro l3 hF
    unfold F_X0_findKind_L2 at hF
    refine V_iload_n dX0_findKind_2 rfl ?_
    refine V_aload_n dX0_findKind_3 rfl ?_
    refine X_gI G dX0_findKind_4 fX0_40 ht.1 rfl ?_
    refine V_icmp_ge (tgt := 29) dX0_findKind_7 (by decide) (fun c => ?_) (fun c => ?_)
    · replace hF := (if_pos c).symm.trans hF
      refine V_iconst (v := -1) dX0_findKind_29 (by decide) ?_
      cases hF
      exact V_ireturn dX0_findKind_30 rfl rfl ⟨rfl, rfl⟩
    · replace hF := (if_neg c).symm.trans hF
      refine V_aload_n dX0_findKind_10 rfl ?_
      refine X_gC G dX0_findKind_11 fX0_9 ht.1 rfl ?_
      refine V_iload_n dX0_findKind_14 rfl ?_
      obtain ⟨hz, hF⟩ := gv_out hF
      refine X_lald dX0_findKind_15 ht.2.1 hz ?_
      refine V_lload_n dX0_findKind_16 rfl ?_
      refine V_lcmp dX0_findKind_17 ?_
      refine V_if_ne (tgt := 23) dX0_findKind_18 (by decide) (fun c => ?_) (fun c => ?_)
      · replace hF := (if_neg c).symm.trans hF
        obtain ⟨x1, qx1, hF⟩ := bnd_g hF
        refine B_iinc (v := 1) qx1 dX0_findKind_23 rfl (by decide) (by decide) ?_
        refine V_goto (tgt := 2) dX0_findKind_26 (by decide) ?_
        exact V_lv' (ih _ hF) (v_all_c rfl (v_all_c rfl (v_all_c rfl v_all_n)))
      · replace hF := (if_pos c).symm.trans hF
        refine V_iload_n dX0_findKind_21 rfl ?_
        cases hF
        exact V_ireturn dX0_findKind_22 rfl rfl ⟨rfl, rfl⟩
set_option maxRecDepth 100000 in
set_option maxHeartbeats 4000000 in
theorem s_X0_findKind {l : Launch} {s0 : State} {D : va_G} {a0 : Array Value} {sh : List Sh} {f : Nat} {S : St} {t : Nat} {p1 : Int64} (ht : isX0 sh t) {r : Int32} (G : GC l s0 D a0) (hF : F_X0_findKind sh f S t p1 = some r) {d : Nat} (hd : 1 ≤ d) : Sp l s0 D d 0 0 mX0_findKind (fun v h => v = some (.int r) ∧ h = wd s0.heap.size sh S) v_noX [.ref (s0.heap.size + t), .long p1] (wd s0.heap.size sh S) := by
  obtain ⟨d, rfl⟩ : ∃ e, d = e + 1 := ⟨d - 1, by omega⟩
  refine Sp.of (by decide +kernel) rfl (Nat.le_of_ble_eq_true rfl) ?_
  unfold F_X0_findKind at hF
  refine V_iconst (v := 0) dX0_findKind_0 (by decide) ?_
  refine V_istore_n dX0_findKind_1 (by decide) ?_
  exact V_lv' (w_X0_findKind_L2 ht G hd f _ hF) (v_all_c rfl (v_all_c rfl (v_all_c rfl v_all_n)))
set_option maxRecDepth 100000 in
set_option maxHeartbeats 4000000 in
theorem s_X0_addKind {l : Launch} {s0 : State} {D : va_G} {a0 : Array Value} {sh : List Sh} {f : Nat} {S : St} {t : Nat} {p1 : Int64} (ht : isX0 sh t) {r : Int32 × St} (G : GC l s0 D a0) (hF : F_X0_addKind sh f S t p1 = some r) {d : Nat} (hd : 1 ≤ d) : Sp l s0 D d 0 0 mX0_addKind (fun v h => v = some (.int r.1) ∧ h = wd s0.heap.size sh r.2) v_noX [.ref (s0.heap.size + t), .long p1] (wd s0.heap.size sh S) := by
  obtain ⟨d, rfl⟩ : ∃ e, d = e + 1 := ⟨d - 1, by omega⟩
  refine Sp.of (by decide +kernel) rfl (Nat.le_of_ble_eq_true rfl) ?_
  unfold F_X0_addKind at hF
  refine V_aload_n dX0_addKind_0 rfl ?_
  refine X_gI G dX0_addKind_1 fX0_40 ht.1 rfl ?_
  refine V_bipush (v := 8) dX0_addKind_4 (by decide) ?_
  refine V_icmp_lt (tgt := 11) dX0_addKind_6 (by decide) (fun c => ?_) (fun c => ?_)
  · replace hF := (if_pos c).symm.trans hF
    refine V_aload_n dX0_addKind_11 rfl ?_
    refine X_gC G dX0_addKind_12 fX0_9 ht.1 rfl ?_
    refine V_aload_n dX0_addKind_15 rfl ?_
    refine X_gI G dX0_addKind_16 fX0_40 ht.1 rfl ?_
    refine V_lload_n dX0_addKind_19 rfl ?_
    obtain ⟨hz, hF⟩ := gv_out hF
    refine X_last dX0_addKind_20 ht.2.1 hz ?_
    obtain ⟨S1, qS1, hF⟩ := bnd_g hF
    refine V_eqS qS1 ?_
    refine V_aload_n dX0_addKind_21 rfl ?_
    refine V_dup dX0_addKind_22 rfl ?_
    refine X_gI G dX0_addKind_23 fX0_40 ht.1 rfl ?_
    refine V_iconst (v := 1) dX0_addKind_26 (by decide) ?_
    refine V_iadd dX0_addKind_27 ?_
    refine X_pI G dX0_addKind_28 gX0_40 ht.1 rfl rfl rfl ?_
    obtain ⟨S2, qS2, hF⟩ := bnd_g hF
    refine V_eqS qS2 ?_
    refine V_iconst (v := 1) dX0_addKind_31 (by decide) ?_
    cases hF
    exact V_ireturn dX0_addKind_32 rfl (by decide) ⟨rfl, rfl⟩
  · replace hF := (if_neg c).symm.trans hF
    refine V_iconst (v := 0) dX0_addKind_9 (by decide) ?_
    cases hF
    exact V_ireturn dX0_addKind_10 rfl (by decide) ⟨rfl, rfl⟩
set_option maxRecDepth 100000 in
set_option maxHeartbeats 4000000 in
theorem s_X0_setKind {l : Launch} {s0 : State} {D : va_G} {a0 : Array Value} {sh : List Sh} {f : Nat} {S : St} {t : Nat} {p1 : Int32} {p2 : Int32} {p3 : Int32} {p4 : Int32} {p5 : Int32} (ht : isX0 sh t) {r : St} (G : GC l s0 D a0) (hF : F_X0_setKind sh f S t p1 p2 p3 p4 p5 = some r) {d : Nat} (hd : 1 ≤ d) : Sp l s0 D d 0 0 mX0_setKind (fun v h => v = none ∧ h = wd s0.heap.size sh r) v_noX [.ref (s0.heap.size + t), .int p1, .int p2, .int p3, .int p4, .int p5] (wd s0.heap.size sh S) := by
  obtain ⟨d, rfl⟩ : ∃ e, d = e + 1 := ⟨d - 1, by omega⟩
  refine Sp.of (by decide +kernel) rfl (Nat.le_of_ble_eq_true rfl) ?_
  unfold F_X0_setKind at hF
  refine V_aload_n dX0_setKind_0 rfl ?_
  refine X_gC G dX0_setKind_1 fX0_15 ht.1 rfl ?_
  refine V_iload_n dX0_setKind_4 rfl ?_
  refine V_iload_n dX0_setKind_5 rfl ?_
  obtain ⟨hz, hF⟩ := gv_out hF
  refine X_iast dX0_setKind_6 ht.2.2.1 hz ?_
  obtain ⟨S1, qS1, hF⟩ := bnd_g hF
  refine V_eqS qS1 ?_
  refine V_aload_n dX0_setKind_7 rfl ?_
  refine X_gC G dX0_setKind_8 fX0_25 ht.1 rfl ?_
  refine V_iload_n dX0_setKind_11 rfl ?_
  refine V_iload_n dX0_setKind_12 rfl ?_
  obtain ⟨hz, hF⟩ := gv_out hF
  refine X_iast dX0_setKind_13 ht.2.2.2.2.2.1 hz ?_
  obtain ⟨S2, qS2, hF⟩ := bnd_g hF
  refine V_eqS qS2 ?_
  refine V_aload_n dX0_setKind_14 rfl ?_
  refine X_gC G dX0_setKind_15 fX0_19 ht.1 rfl ?_
  refine V_iload_n dX0_setKind_18 rfl ?_
  refine V_iload dX0_setKind_19 rfl ?_
  obtain ⟨hz, hF⟩ := gv_out hF
  refine X_iast dX0_setKind_21 ht.2.2.2.1 hz ?_
  obtain ⟨S3, qS3, hF⟩ := bnd_g hF
  refine V_eqS qS3 ?_
  refine V_aload_n dX0_setKind_22 rfl ?_
  refine X_gC G dX0_setKind_23 fX0_22 ht.1 rfl ?_
  refine V_iload_n dX0_setKind_26 rfl ?_
  refine V_iload dX0_setKind_27 rfl ?_
  obtain ⟨hz, hF⟩ := gv_out hF
  refine X_iast dX0_setKind_29 ht.2.2.2.2.1 hz ?_
  obtain ⟨S4, qS4, hF⟩ := bnd_g hF
  refine V_eqS qS4 ?_
  cases hF
  exact V_return dX0_setKind_30 rfl ⟨rfl, rfl⟩
set_option maxRecDepth 100000 in
set_option maxHeartbeats 4000000 in
theorem s_X0_setOwn {l : Launch} {s0 : State} {D : va_G} {a0 : Array Value} {sh : List Sh} {f : Nat} {S : St} {t : Nat} {p1 : Int32} (ht : isX0 sh t) {r : St} (G : GC l s0 D a0) (hF : F_X0_setOwn sh f S t p1 = some r) {d : Nat} (hd : 2 ≤ d) : Sp l s0 D d 0 0 mX0_setOwn (fun v h => v = none ∧ h = wd s0.heap.size sh r) v_noX [.ref (s0.heap.size + t), .int p1] (wd s0.heap.size sh S) := by
  obtain ⟨d, rfl⟩ : ∃ e, d = e + 1 := ⟨d - 1, by omega⟩
  refine Sp.of (by decide +kernel) rfl (Nat.le_of_ble_eq_true rfl) ?_
  unfold F_X0_setOwn at hF
  refine V_aload_n dX0_setOwn_0 rfl ?_
  refine X_gI G dX0_setOwn_1 fX0_40 ht.1 rfl ?_
  refine V_iconst (v := 1) dX0_setOwn_4 (by decide) ?_
  refine V_icmp_lt (tgt := 27) dX0_setOwn_5 (by decide) (fun c => ?_) (fun c => ?_)
  · replace hF := (if_pos c).symm.trans hF
    cases hF
    exact V_return dX0_setOwn_27 rfl ⟨rfl, rfl⟩
  · replace hF := (if_neg c).symm.trans hF
    refine V_aload_n dX0_setOwn_8 rfl ?_
    refine V_aload_n dX0_setOwn_9 rfl ?_
    refine X_gI G dX0_setOwn_10 fX0_40 ht.1 rfl ?_
    refine V_iconst (v := 1) dX0_setOwn_13 (by decide) ?_
    refine V_isub dX0_setOwn_14 ?_
    refine V_aload_n dX0_setOwn_15 rfl ?_
    refine X_gI G dX0_setOwn_16 fX0_40 ht.1 rfl ?_
    refine V_iconst (v := 1) dX0_setOwn_19 (by decide) ?_
    refine V_isub dX0_setOwn_20 ?_
    refine V_iconst (v := 0) dX0_setOwn_21 (by decide) ?_
    refine V_iload_n dX0_setOwn_22 rfl ?_
    refine V_iconst (v := 0) dX0_setOwn_23 (by decide) ?_
    obtain ⟨y1, hc, hF⟩ := bd hF
    refine V_callV G dX0_setOwn_24 kX0_55 (wd_at ht.1) ⟨by decide, rfl⟩ (s_X0_setKind ht G hc (by omega)) rfl (Nat.le_of_ble_eq_true rfl) (fun _ _ _ q => q.elim) ?_
    rintro _ _ ⟨rfl, rfl⟩
    cases hF
    exact V_return dX0_setOwn_27 rfl ⟨rfl, rfl⟩
set_option maxRecDepth 100000 in
set_option maxHeartbeats 4000000 in
theorem s_X0_setTwo {l : Launch} {s0 : State} {D : va_G} {a0 : Array Value} {sh : List Sh} {f : Nat} {S : St} {t : Nat} {p1 : Int32} {p2 : Int32} {p3 : Int32} (ht : isX0 sh t) {r : St} (G : GC l s0 D a0) (hF : F_X0_setTwo sh f S t p1 p2 p3 = some r) {d : Nat} (hd : 2 ≤ d) : Sp l s0 D d 0 0 mX0_setTwo (fun v h => v = none ∧ h = wd s0.heap.size sh r) v_noX [.ref (s0.heap.size + t), .int p1, .int p2, .int p3] (wd s0.heap.size sh S) := by
  obtain ⟨d, rfl⟩ : ∃ e, d = e + 1 := ⟨d - 1, by omega⟩
  refine Sp.of (by decide +kernel) rfl (Nat.le_of_ble_eq_true rfl) ?_
  unfold F_X0_setTwo at hF
  refine V_aload_n dX0_setTwo_0 rfl ?_
  refine X_gI G dX0_setTwo_1 fX0_40 ht.1 rfl ?_
  refine V_iconst (v := 2) dX0_setTwo_4 (by decide) ?_
  refine V_icmp_lt (tgt := 47) dX0_setTwo_5 (by decide) (fun c => ?_) (fun c => ?_)
  · replace hF := (if_pos c).symm.trans hF
    cases hF
    exact V_return dX0_setTwo_47 rfl ⟨rfl, rfl⟩
  · replace hF := (if_neg c).symm.trans hF
    refine V_aload_n dX0_setTwo_8 rfl ?_
    refine V_aload_n dX0_setTwo_9 rfl ?_
    refine X_gI G dX0_setTwo_10 fX0_40 ht.1 rfl ?_
    refine V_iconst (v := 2) dX0_setTwo_13 (by decide) ?_
    refine V_isub dX0_setTwo_14 ?_
    refine V_aload_n dX0_setTwo_15 rfl ?_
    refine X_gI G dX0_setTwo_16 fX0_40 ht.1 rfl ?_
    refine V_iconst (v := 1) dX0_setTwo_19 (by decide) ?_
    refine V_isub dX0_setTwo_20 ?_
    refine V_iload_n dX0_setTwo_21 rfl ?_
    refine V_iload_n dX0_setTwo_22 rfl ?_
    refine V_iload_n dX0_setTwo_23 rfl ?_
    obtain ⟨y1, hc, hF⟩ := bd hF
    refine V_callV G dX0_setTwo_24 kX0_55 (wd_at ht.1) ⟨by decide, rfl⟩ (s_X0_setKind ht G hc (by omega)) rfl (Nat.le_of_ble_eq_true rfl) (fun _ _ _ q => q.elim) ?_
    rintro _ _ ⟨rfl, rfl⟩
    refine V_aload_n dX0_setTwo_27 rfl ?_
    refine V_aload_n dX0_setTwo_28 rfl ?_
    refine X_gI G dX0_setTwo_29 fX0_40 ht.1 rfl ?_
    refine V_iconst (v := 1) dX0_setTwo_32 (by decide) ?_
    refine V_isub dX0_setTwo_33 ?_
    refine V_aload_n dX0_setTwo_34 rfl ?_
    refine X_gI G dX0_setTwo_35 fX0_40 ht.1 rfl ?_
    refine V_iconst (v := 2) dX0_setTwo_38 (by decide) ?_
    refine V_isub dX0_setTwo_39 ?_
    refine V_iload_n dX0_setTwo_40 rfl ?_
    refine V_iload_n dX0_setTwo_41 rfl ?_
    refine V_iload_n dX0_setTwo_42 rfl ?_
    refine V_ineg dX0_setTwo_43 ?_
    obtain ⟨y2, hc, hF⟩ := bd hF
    refine V_callV G dX0_setTwo_44 kX0_55 (wd_at ht.1) ⟨by decide, rfl⟩ (s_X0_setKind ht G hc (by omega)) rfl (Nat.le_of_ble_eq_true rfl) (fun _ _ _ q => q.elim) ?_
    rintro _ _ ⟨rfl, rfl⟩
    cases hF
    exact V_return dX0_setTwo_47 rfl ⟨rfl, rfl⟩
set_option maxRecDepth 100000 in
set_option maxHeartbeats 4000000 in
theorem s_X0_openRule {l : Launch} {s0 : State} {D : va_G} {a0 : Array Value} {sh : List Sh} {f : Nat} {S : St} {t : Nat} (ht : isX0 sh t) {r : Int32 × St} (G : GC l s0 D a0) (hF : F_X0_openRule sh f S t = some r) {d : Nat} (hd : 1 ≤ d) : Sp l s0 D d 0 0 mX0_openRule (fun v h => v = some (.int r.1) ∧ h = wd s0.heap.size sh r.2) v_noX [.ref (s0.heap.size + t)] (wd s0.heap.size sh S) := by
  obtain ⟨d, rfl⟩ : ∃ e, d = e + 1 := ⟨d - 1, by omega⟩
  refine Sp.of (by decide +kernel) rfl (Nat.le_of_ble_eq_true rfl) ?_
  unfold F_X0_openRule at hF
  refine V_aload_n dX0_openRule_0 rfl ?_
  refine X_gI G dX0_openRule_1 fX0_44 ht.1 rfl ?_
  refine V_iconst (v := 4) dX0_openRule_4 (by decide) ?_
  refine V_icmp_lt (tgt := 10) dX0_openRule_5 (by decide) (fun c => ?_) (fun c => ?_)
  · replace hF := (if_pos c).symm.trans hF
    refine V_aload_n dX0_openRule_10 rfl ?_
    refine X_gC G dX0_openRule_11 fX0_28 ht.1 rfl ?_
    refine V_aload_n dX0_openRule_14 rfl ?_
    refine X_gI G dX0_openRule_15 fX0_44 ht.1 rfl ?_
    refine V_iconst (v := 0) dX0_openRule_18 (by decide) ?_
    obtain ⟨hz, hF⟩ := gv_out hF
    refine X_iast dX0_openRule_19 ht.2.2.2.2.2.2.1 hz ?_
    obtain ⟨S1, qS1, hF⟩ := bnd_g hF
    refine V_eqS qS1 ?_
    refine V_iconst (v := 1) dX0_openRule_20 (by decide) ?_
    cases hF
    exact V_ireturn dX0_openRule_21 rfl (by decide) ⟨rfl, rfl⟩
  · replace hF := (if_neg c).symm.trans hF
    refine V_iconst (v := 0) dX0_openRule_8 (by decide) ?_
    cases hF
    exact V_ireturn dX0_openRule_9 rfl (by decide) ⟨rfl, rfl⟩
set_option maxRecDepth 100000 in
set_option maxHeartbeats 4000000 in
theorem s_X0_addLeg {l : Launch} {s0 : State} {D : va_G} {a0 : Array Value} {sh : List Sh} {f : Nat} {S : St} {t : Nat} {p1 : Int32} (ht : isX0 sh t) {r : Int32 × St} (G : GC l s0 D a0) (hF : F_X0_addLeg sh f S t p1 = some r) {d : Nat} (hd : 1 ≤ d) : Sp l s0 D d 0 0 mX0_addLeg (fun v h => v = some (.int r.1) ∧ h = wd s0.heap.size sh r.2) v_noX [.ref (s0.heap.size + t), .int p1] (wd s0.heap.size sh S) := by
  obtain ⟨d, rfl⟩ : ∃ e, d = e + 1 := ⟨d - 1, by omega⟩
  refine Sp.of (by decide +kernel) rfl (Nat.le_of_ble_eq_true rfl) ?_
  unfold F_X0_addLeg at hF
  refine V_aload_n dX0_addLeg_0 rfl ?_
  refine X_gI G dX0_addLeg_1 fX0_44 ht.1 rfl ?_
  refine V_iconst (v := 4) dX0_addLeg_4 (by decide) ?_
  refine V_icmp_ge (tgt := 21) dX0_addLeg_5 (by decide) (fun c => ?_) (fun c => ?_)
  · replace hF := (if_pos c).symm.trans hF
    refine V_iconst (v := 0) dX0_addLeg_21 (by decide) ?_
    cases hF
    exact V_ireturn dX0_addLeg_22 rfl (by decide) ⟨rfl, rfl⟩
  · replace hF := (if_neg c).symm.trans hF
    refine V_aload_n dX0_addLeg_8 rfl ?_
    refine X_gC G dX0_addLeg_9 fX0_28 ht.1 rfl ?_
    refine V_aload_n dX0_addLeg_12 rfl ?_
    refine X_gI G dX0_addLeg_13 fX0_44 ht.1 rfl ?_
    obtain ⟨hz, hF⟩ := gv_out hF
    refine X_iald dX0_addLeg_16 ht.2.2.2.2.2.2.1 hz ?_
    refine V_iconst (v := 4) dX0_addLeg_17 (by decide) ?_
    refine V_icmp_lt (tgt := 23) dX0_addLeg_18 (by decide) (fun c => ?_) (fun c => ?_)
    · replace hF := (if_pos c).symm.trans hF
      refine V_aload_n dX0_addLeg_23 rfl ?_
      refine X_gC G dX0_addLeg_24 fX0_37 ht.1 rfl ?_
      refine V_aload_n dX0_addLeg_27 rfl ?_
      refine X_gI G dX0_addLeg_28 fX0_44 ht.1 rfl ?_
      refine V_iconst (v := 4) dX0_addLeg_31 (by decide) ?_
      refine V_imul dX0_addLeg_32 ?_
      refine V_aload_n dX0_addLeg_33 rfl ?_
      refine X_gC G dX0_addLeg_34 fX0_28 ht.1 rfl ?_
      refine V_aload_n dX0_addLeg_37 rfl ?_
      refine X_gI G dX0_addLeg_38 fX0_44 ht.1 rfl ?_
      obtain ⟨hz, hF⟩ := gv_out hF
      refine X_iald dX0_addLeg_41 ht.2.2.2.2.2.2.1 hz ?_
      refine V_iadd dX0_addLeg_42 ?_
      refine V_iload_n dX0_addLeg_43 rfl ?_
      obtain ⟨hz, hF⟩ := gv_out hF
      refine X_iast dX0_addLeg_44 ht.2.2.2.2.2.2.2.2.2 hz ?_
      obtain ⟨S1, qS1, hF⟩ := bnd_g hF
      refine V_eqS qS1 ?_
      refine V_aload_n dX0_addLeg_45 rfl ?_
      refine X_gC G dX0_addLeg_46 fX0_28 ht.1 rfl ?_
      refine V_aload_n dX0_addLeg_49 rfl ?_
      refine X_gI G dX0_addLeg_50 fX0_44 ht.1 rfl ?_
      refine V_dup2 dX0_addLeg_53 rfl rfl ?_
      obtain ⟨hz, hF⟩ := gv_out hF
      refine X_iald dX0_addLeg_54 ht.2.2.2.2.2.2.1 hz ?_
      refine V_iconst (v := 1) dX0_addLeg_55 (by decide) ?_
      refine V_iadd dX0_addLeg_56 ?_
      obtain ⟨hz, hF⟩ := gv_out hF
      refine X_iast dX0_addLeg_57 ht.2.2.2.2.2.2.1 hz ?_
      obtain ⟨S2, qS2, hF⟩ := bnd_g hF
      refine V_eqS qS2 ?_
      refine V_iconst (v := 1) dX0_addLeg_58 (by decide) ?_
      cases hF
      exact V_ireturn dX0_addLeg_59 rfl (by decide) ⟨rfl, rfl⟩
    · replace hF := (if_neg c).symm.trans hF
      refine V_iconst (v := 0) dX0_addLeg_21 (by decide) ?_
      cases hF
      exact V_ireturn dX0_addLeg_22 rfl (by decide) ⟨rfl, rfl⟩
set_option maxRecDepth 100000 in
set_option maxHeartbeats 4000000 in
theorem w_X0_hasHalfTwice_L5 {l : Launch} {s0 : State} {D : va_G} {a0 : Array Value} {sh : List Sh} {f : Nat} {S : St} {t : Nat} {p1 : Int32} {p2 : Int32} (ht : isX0 sh t) {r : Int32} {d : Nat} (G : GC l s0 D a0) (hd : 3 ≤ d + 1) : ∀ (n : Nat) (l3 : Int32) (l4 : Int32), F_X0_hasHalfTwice_L5 sh f S t p1 p2 n l3 l4 = some r → V l s0 D (d + 1) 0 0 mX0_hasHalfTwice (fun v h => v = some (.int r) ∧ h = wd s0.heap.size sh S) v_noX 5 [(0, .ref (s0.heap.size + t)), (1, .int p1), (2, .int p2), (3, .int l3), (4, .int l4)] [] (wd s0.heap.size sh S) := by
  intro n
  induction n with
  | zero => intro l3 l4 hF; cases hF
  | succ n ih =>
    intro l3 l4 hF
    unfold F_X0_hasHalfTwice_L5 at hF
    refine V_iload dX0_hasHalfTwice_5 rfl ?_
    refine V_iload_n dX0_hasHalfTwice_7 rfl ?_
    refine V_iload_n dX0_hasHalfTwice_8 rfl ?_
    refine V_iadd dX0_hasHalfTwice_9 ?_
    refine V_icmp_ge (tgt := 68) dX0_hasHalfTwice_10 (by decide) (fun c => ?_) (fun c => ?_)
    · replace hF := (if_pos c).symm.trans hF
      refine V_iconst (v := 0) dX0_hasHalfTwice_68 (by decide) ?_
      cases hF
      exact V_ireturn dX0_hasHalfTwice_69 rfl (by decide) ⟨rfl, rfl⟩
    · replace hF := (if_neg c).symm.trans hF
      refine V_iload dX0_hasHalfTwice_13 rfl ?_
      refine V_aload_n dX0_hasHalfTwice_15 rfl ?_
      refine X_gC G dX0_hasHalfTwice_16 fX0_37 ht.1 rfl ?_
      refine X_alen dX0_hasHalfTwice_19 ht.2.2.2.2.2.2.2.2.2 ?_
      refine V_icmp_ge (tgt := 68) dX0_hasHalfTwice_20 (by decide) (fun c => ?_) (fun c => ?_)
      · replace hF := (if_pos c).symm.trans hF
        refine V_iconst (v := 0) dX0_hasHalfTwice_68 (by decide) ?_
        cases hF
        exact V_ireturn dX0_hasHalfTwice_69 rfl (by decide) ⟨rfl, rfl⟩
      · replace hF := (if_neg c).symm.trans hF
        refine V_iconst (v := 1) dX0_hasHalfTwice_23 (by decide) ?_
        refine V_aload_n dX0_hasHalfTwice_24 rfl ?_
        refine X_gC G dX0_hasHalfTwice_25 fX0_37 ht.1 rfl ?_
        refine V_iload dX0_hasHalfTwice_28 rfl ?_
        obtain ⟨hz, hF⟩ := gv_out hF
        refine X_iald dX0_hasHalfTwice_30 ht.2.2.2.2.2.2.2.2.2 hz ?_
        refine V_ishl dX0_hasHalfTwice_31 ?_
        obtain ⟨x1, qx1, hF⟩ := bnd_g hF
        refine B_istore qx1 dX0_hasHalfTwice_32 (by decide) ?_
        refine V_aload_n dX0_hasHalfTwice_34 rfl ?_
        refine V_aload_n dX0_hasHalfTwice_35 rfl ?_
        refine X_gC G dX0_hasHalfTwice_36 fX0_37 ht.1 rfl ?_
        refine V_iload dX0_hasHalfTwice_39 rfl ?_
        obtain ⟨hz, hF⟩ := gv_out hF
        refine X_iald dX0_hasHalfTwice_41 ht.2.2.2.2.2.2.2.2.2 hz ?_
        obtain ⟨y2, hc, hF⟩ := bd hF
        refine V_callV G dX0_hasHalfTwice_42 kX0_52 (wd_at ht.1) ⟨by decide, rfl⟩ (s_X0_isHalf ht G hc (by omega)) rfl (Nat.le_of_ble_eq_true rfl) (fun _ _ _ q => q.elim) ?_
        rintro _ _ ⟨rfl, rfl⟩
        refine V_if_eq (tgt := 57) dX0_hasHalfTwice_45 (by decide) (fun c => ?_) (fun c => ?_)
        · replace hF := (if_pos c).symm.trans hF
          refine V_iload_n dX0_hasHalfTwice_57 rfl ?_
          refine V_iload dX0_hasHalfTwice_58 rfl ?_
          refine V_ior dX0_hasHalfTwice_60 ?_
          obtain ⟨x3, qx3, hF⟩ := bnd_g hF
          refine B_istore_n qx3 dX0_hasHalfTwice_61 (by decide) ?_
          obtain ⟨x4, qx4, hF⟩ := bnd_g hF
          refine B_iinc (v := 1) qx4 dX0_hasHalfTwice_62 rfl (by decide) (by decide) ?_
          refine V_goto (tgt := 5) dX0_hasHalfTwice_65 (by decide) ?_
          exact V_lv' (ih _ _ hF) (v_all_c rfl (v_all_c rfl (v_all_c rfl (v_all_c rfl (v_all_c rfl v_all_n)))))
        · replace hF := (if_neg c).symm.trans hF
          refine V_iload_n dX0_hasHalfTwice_48 rfl ?_
          refine V_iload dX0_hasHalfTwice_49 rfl ?_
          refine V_iand dX0_hasHalfTwice_51 ?_
          refine V_if_eq (tgt := 57) dX0_hasHalfTwice_52 (by decide) (fun c => ?_) (fun c => ?_)
          · replace hF := (if_pos c).symm.trans hF
            refine V_iload_n dX0_hasHalfTwice_57 rfl ?_
            refine V_iload dX0_hasHalfTwice_58 rfl ?_
            refine V_ior dX0_hasHalfTwice_60 ?_
            obtain ⟨x5, qx5, hF⟩ := bnd_g hF
            refine B_istore_n qx5 dX0_hasHalfTwice_61 (by decide) ?_
            obtain ⟨x6, qx6, hF⟩ := bnd_g hF
            refine B_iinc (v := 1) qx6 dX0_hasHalfTwice_62 rfl (by decide) (by decide) ?_
            refine V_goto (tgt := 5) dX0_hasHalfTwice_65 (by decide) ?_
            exact V_lv' (ih _ _ hF) (v_all_c rfl (v_all_c rfl (v_all_c rfl (v_all_c rfl (v_all_c rfl v_all_n)))))
          · replace hF := (if_neg c).symm.trans hF
            refine V_iconst (v := 1) dX0_hasHalfTwice_55 (by decide) ?_
            cases hF
            exact V_ireturn dX0_hasHalfTwice_56 rfl (by decide) ⟨rfl, rfl⟩
set_option maxRecDepth 100000 in
set_option maxHeartbeats 4000000 in
theorem s_X0_hasHalfTwice {l : Launch} {s0 : State} {D : va_G} {a0 : Array Value} {sh : List Sh} {f : Nat} {S : St} {t : Nat} {p1 : Int32} {p2 : Int32} (ht : isX0 sh t) {r : Int32} (G : GC l s0 D a0) (hF : F_X0_hasHalfTwice sh f S t p1 p2 = some r) {d : Nat} (hd : 3 ≤ d) : Sp l s0 D d 0 0 mX0_hasHalfTwice (fun v h => v = some (.int r) ∧ h = wd s0.heap.size sh S) v_noX [.ref (s0.heap.size + t), .int p1, .int p2] (wd s0.heap.size sh S) := by
  obtain ⟨d, rfl⟩ : ∃ e, d = e + 1 := ⟨d - 1, by omega⟩
  refine Sp.of (by decide +kernel) rfl (Nat.le_of_ble_eq_true rfl) ?_
  unfold F_X0_hasHalfTwice at hF
  refine V_iconst (v := 0) dX0_hasHalfTwice_0 (by decide) ?_
  refine V_istore_n dX0_hasHalfTwice_1 (by decide) ?_
  refine V_iload_n dX0_hasHalfTwice_2 rfl ?_
  refine V_istore dX0_hasHalfTwice_3 (by decide) ?_
  exact V_lv' (w_X0_hasHalfTwice_L5 ht G hd f _ _ hF) (v_all_c rfl (v_all_c rfl (v_all_c rfl (v_all_c rfl (v_all_c rfl v_all_n)))))

