theorem s_J3_checkIndex_8e157 {l : Launch} {s0 : State} {D : va_G} {h : AH} {p0 p1 : Int32} {v : Value} (hv : v = .null ∨ ∃ a : Nat, v = .ref a) (h0 : ¬ p0 < 0) (h1 : p0 < p1) {d : Nat} (hd : 1 ≤ d) : Sp l s0 D d 0 0 mJ3_checkIndex_8e157 (fun w h' => w = some (.int p0) ∧ h' = h) v_noX [.int p0, .int p1, v] h := by
  obtain ⟨d, rfl⟩ : ∃ e, d = e + 1 := ⟨d - 1, by omega⟩
  refine Sp.of (by decide +kernel) rfl (by rcases hv with rfl | ⟨a, rfl⟩ <;> exact Nat.le_of_ble_eq_true rfl) ?_
  refine V_iload_n dJ3_checkIndex_8e157_0 rfl ?_
  refine V_if_lt (tgt := 9) dJ3_checkIndex_8e157_1 (by decide) (fun c => absurd c h0) (fun _ => ?_)
  refine V_iload_n dJ3_checkIndex_8e157_4 rfl ?_
  refine V_iload_n dJ3_checkIndex_8e157_5 rfl ?_
  refine V_icmp_lt (tgt := 16) dJ3_checkIndex_8e157_6 (by decide) (fun _ => ?_) (fun c => absurd h1 c)
  refine V_iload_n dJ3_checkIndex_8e157_16 rfl ?_
  exact V_ireturn dJ3_checkIndex_8e157_17 rfl rfl ⟨rfl, rfl⟩
theorem s_J0_checkIndex_df160 {l : Launch} {s0 : State} {D : va_G} {a0 : Array Value} {sh : List Sh} {f : Nat} {S : St} {p0 p1 : Int32} {r : Unit} (G2 : GC2 l s0 D a0) (hF : F_J0_checkIndex_df160 sh f S p0 p1 = some r) {d : Nat} (hd : 2 ≤ d) : Sp l s0 D d 0 0 mJ0_checkIndex_df160 (fun v h => v = none ∧ h = wd s0.heap.size sh S) v_noX [.int p0, .int p1] (wd s0.heap.size sh S) := by
  have G := G2.1
  obtain ⟨d, rfl⟩ : ∃ e, d = e + 1 := ⟨d - 1, by omega⟩
  refine Sp.of (by decide +kernel) rfl (Nat.le_of_ble_eq_true rfl) ?_
  unfold F_J0_checkIndex_df160 at hF
  obtain ⟨h0, hF⟩ := gv_out hF
  obtain ⟨h1, hF⟩ := gv_in hF
  refine V_iload_n dJ0_checkIndex_df160_0 rfl ?_
  refine V_iload_n dJ0_checkIndex_df160_1 rfl ?_
  refine V_gsq dJ0_checkIndex_df160_2 G2.2.2.2.2.2.1 zJ0_1053 (fun v hv => ?_)
  refine V_callS dJ0_checkIndex_df160_5 kJ0_1059 (s_J3_checkIndex_8e157 hv h0 h1 (by omega)) rfl (Nat.le_of_ble_eq_true rfl) (fun _ _ _ q => q.elim) ?_
  rintro _ _ ⟨rfl, rfl⟩
  refine V_pop dJ0_checkIndex_df160_8 rfl ?_
  exact V_return dJ0_checkIndex_df160_9 rfl ⟨rfl, rfl⟩
set_option maxRecDepth 100000 in
set_option maxHeartbeats 4000000 in
theorem s_J0_coder_7d493 {l : Launch} {s0 : State} {D : va_G} {a0 : Array Value} {sh : List Sh} {f : Nat} {S : St} {i0 t : Nat} (ht : v_str s0 i0 t) {r : Int32} (G2 : GC2 l s0 D a0) (hF : F_J0_coder_7d493 sh f S i0 = some r) {d : Nat} (hd : 1 ≤ d) : Sp l s0 D d 0 0 mJ0_coder_7d493 (fun v h => v = some (.int r) ∧ h = wd s0.heap.size sh S) v_noX [.ref t] (wd s0.heap.size sh S) := by
  have G := G2.1
  obtain ⟨d, rfl⟩ : ∃ e, d = e + 1 := ⟨d - 1, by omega⟩
  refine Sp.of (by decide +kernel) rfl (Nat.le_of_ble_eq_true rfl) ?_
  unfold F_J0_coder_7d493 at hF
  refine V_gsi dJ0_coder_7d493_0 G2.2.2.1 zJ0_38 ?_
  refine V_if_eq (tgt := 13) dJ0_coder_7d493_3 (by decide) (fun c => ?_) (fun c => ?_)
  · replace hF := (if_pos c).symm.trans hF
    refine V_iconst (v := 1) dJ0_coder_7d493_13 (by decide) ?_
    obtain ⟨hz, hF⟩ := gv_out hF
    cases hF
    exact V_ireturn dJ0_coder_7d493_14 rfl (congrArg Value.int (Decidable.not_not.mp hz)) ⟨rfl, rfl⟩
  · replace hF := (if_neg c).symm.trans hF
    refine V_aload_n dJ0_coder_7d493_6 rfl ?_
    refine V_gso dJ0_coder_7d493_7 ht.2.1 zJ0_15 ?_
    refine V_goto (tgt := 14) dJ0_coder_7d493_10 (by decide) ?_
    obtain ⟨hz, hF⟩ := gv_out hF
    cases hF
    exact V_ireturn dJ0_coder_7d493_14 rfl (congrArg Value.int (Decidable.not_not.mp hz)) ⟨rfl, rfl⟩
set_option maxRecDepth 100000 in
set_option maxHeartbeats 4000000 in
theorem s_J0_isLatin1_aae02 {l : Launch} {s0 : State} {D : va_G} {a0 : Array Value} {sh : List Sh} {f : Nat} {S : St} {i0 t : Nat} (ht : v_str s0 i0 t) {r : Int32} (G2 : GC2 l s0 D a0) (hF : F_J0_isLatin1_aae02 sh f S i0 = some r) {d : Nat} (hd : 1 ≤ d) : Sp l s0 D d 0 0 mJ0_isLatin1_aae02 (fun v h => v = some (.int r) ∧ h = wd s0.heap.size sh S) v_noX [.ref t] (wd s0.heap.size sh S) := by
  have G := G2.1
  obtain ⟨d, rfl⟩ : ∃ e, d = e + 1 := ⟨d - 1, by omega⟩
  refine Sp.of (by decide +kernel) rfl (Nat.le_of_ble_eq_true rfl) ?_
  unfold F_J0_isLatin1_aae02 at hF
  refine V_gsi dJ0_isLatin1_aae02_0 G2.2.2.1 zJ0_38 ?_
  refine V_if_eq (tgt := 17) dJ0_isLatin1_aae02_3 (by decide) (fun c => ?_) (fun c => ?_)
  · replace hF := (if_pos c).symm.trans hF
    refine V_iconst (v := 0) dJ0_isLatin1_aae02_17 (by decide) ?_
    cases hF
    exact V_ireturn dJ0_isLatin1_aae02_18 rfl (by decide) ⟨rfl, rfl⟩
  · replace hF := (if_neg c).symm.trans hF
    refine V_aload_n dJ0_isLatin1_aae02_6 rfl ?_
    refine V_gso dJ0_isLatin1_aae02_7 ht.2.1 zJ0_15 ?_
    refine V_if_ne (tgt := 17) dJ0_isLatin1_aae02_10 (by decide) (fun c => ?_) (fun c => ?_)
    · replace hF := (if_neg c).symm.trans hF
      refine V_iconst (v := 0) dJ0_isLatin1_aae02_17 (by decide) ?_
      cases hF
      exact V_ireturn dJ0_isLatin1_aae02_18 rfl (by decide) ⟨rfl, rfl⟩
    · replace hF := (if_pos c).symm.trans hF
      refine V_iconst (v := 1) dJ0_isLatin1_aae02_13 (by decide) ?_
      refine V_goto (tgt := 18) dJ0_isLatin1_aae02_14 (by decide) ?_
      cases hF
      exact V_ireturn dJ0_isLatin1_aae02_18 rfl (by decide) ⟨rfl, rfl⟩
set_option maxRecDepth 100000 in
set_option maxHeartbeats 4000000 in
theorem s_J0_length_8abf5 {l : Launch} {s0 : State} {D : va_G} {a0 : Array Value} {sh : List Sh} {f : Nat} {S : St} {i0 t : Nat} (ht : v_str s0 i0 t) {r : Int32} (G2 : GC2 l s0 D a0) (hF : F_J0_length_8abf5 sh f S i0 = some r) {d : Nat} (hd : 2 ≤ d) : Sp l s0 D d 0 0 mJ0_length_8abf5 (fun v h => v = some (.int r) ∧ h = wd s0.heap.size sh S) v_noX [.ref t] (wd s0.heap.size sh S) := by
  have G := G2.1
  obtain ⟨d, rfl⟩ : ∃ e, d = e + 1 := ⟨d - 1, by omega⟩
  refine Sp.of (by decide +kernel) rfl (Nat.le_of_ble_eq_true rfl) ?_
  unfold F_J0_length_8abf5 at hF
  refine V_aload_n dJ0_length_8abf5_0 rfl ?_
  obtain ⟨a1, hoa1, ha1⟩ := ht.2.2
  refine V_gso dJ0_length_8abf5_1 hoa1 zJ0_9 ?_
  refine V_oalen dJ0_length_8abf5_4 ha1 ?_
  refine V_aload_n dJ0_length_8abf5_5 rfl ?_
  obtain ⟨y2, hc, hF⟩ := bd hF
  refine V_callVO dJ0_length_8abf5_6 kJ0_335 ht.1 (s_J0_coder_7d493 ht G2 hc (by omega)) rfl (Nat.le_of_ble_eq_true rfl) (fun _ _ _ q => q.elim) ?_
  rintro _ _ ⟨rfl, rfl⟩
  refine V_ishr dJ0_length_8abf5_9 ?_
  cases hF
  exact V_ireturn dJ0_length_8abf5_10 rfl rfl ⟨rfl, rfl⟩
set_option maxRecDepth 100000 in
set_option maxHeartbeats 4000000 in
theorem s_J1_charAt_3b067 {l : Launch} {s0 : State} {D : va_G} {a0 : Array Value} {sh : List Sh} {f : Nat} {S : St} {i0 p0 : Nat} {p1 : Int32} (hp0 : v_sv s0 i0 p0) {r : Int32} (G2 : GC2 l s0 D a0) (hF : F_J1_charAt_3b067 sh f S i0 p1 = some r) {d : Nat} (hd : 3 ≤ d) : Sp l s0 D d 0 0 mJ1_charAt_3b067 (fun v h => v = some (.int r) ∧ h = wd s0.heap.size sh S) v_noX [.ref p0, .int p1] (wd s0.heap.size sh S) := by
  have G := G2.1
  obtain ⟨d, rfl⟩ : ∃ e, d = e + 1 := ⟨d - 1, by omega⟩
  refine Sp.of (by decide +kernel) rfl (Nat.le_of_ble_eq_true rfl) ?_
  unfold F_J1_charAt_3b067 at hF
  refine V_iload_n dJ1_charAt_3b067_0 rfl ?_
  refine V_aload_n dJ1_charAt_3b067_1 rfl ?_
  refine V_oalen dJ1_charAt_3b067_2 hp0 ?_
  obtain ⟨y1, hc, hF⟩ := bd hF
  refine V_callS dJ1_charAt_3b067_3 kJ1_9 (s_J0_checkIndex_df160 G2 hc (by omega)) rfl (Nat.le_of_ble_eq_true rfl) (fun _ _ _ q => q.elim) ?_
  rintro _ _ ⟨rfl, rfl⟩
  refine V_aload_n dJ1_charAt_3b067_6 rfl ?_
  refine V_iload_n dJ1_charAt_3b067_7 rfl ?_
  obtain ⟨hz, hF⟩ := gv_out hF
  refine V_obald (f := v_tf (v_sb i0)) dJ1_charAt_3b067_8 hp0 hz ?_
  refine V_sipush (v := 255) dJ1_charAt_3b067_9 (by decide) ?_
  refine V_iand dJ1_charAt_3b067_12 ?_
  refine V_i2c dJ1_charAt_3b067_13 ?_
  obtain ⟨hz, hF⟩ := gv_out hF
  cases hF
  exact V_ireturn dJ1_charAt_3b067_14 rfl (congrArg Value.int (Decidable.not_not.mp hz)) ⟨rfl, rfl⟩
set_option maxRecDepth 100000 in
set_option maxHeartbeats 4000000 in
theorem s_J0_charAt_5068e {l : Launch} {s0 : State} {D : va_G} {a0 : Array Value} {sh : List Sh} {f : Nat} {S : St} {i0 t : Nat} {p1 : Int32} (ht : v_str s0 i0 t) {r : Int32} (G2 : GC2 l s0 D a0) (hF : F_J0_charAt_5068e sh f S i0 p1 = some r) {d : Nat} (hd : 5 ≤ d) : Sp l s0 D d 0 0 mJ0_charAt_5068e (fun v h => v = some (.int r) ∧ h = wd s0.heap.size sh S) v_noX [.ref t, .int p1] (wd s0.heap.size sh S) := by
  have G := G2.1
  obtain ⟨d, rfl⟩ : ∃ e, d = e + 1 := ⟨d - 1, by omega⟩
  refine Sp.of (by decide +kernel) rfl (Nat.le_of_ble_eq_true rfl) ?_
  unfold F_J0_charAt_5068e at hF
  refine V_aload_n dJ0_charAt_5068e_0 rfl ?_
  obtain ⟨y1, hc, hF⟩ := bd hF
  refine V_callVO dJ0_charAt_5068e_1 kJ0_492 ht.1 (s_J0_isLatin1_aae02 ht G2 hc (by omega)) rfl (Nat.le_of_ble_eq_true rfl) (fun _ _ _ q => q.elim) ?_
  rintro _ _ ⟨rfl, rfl⟩
  refine V_if_eq (tgt := 16) dJ0_charAt_5068e_4 (by decide) (fun c => ?_) (fun c => ?_)
  · replace hF := (if_pos c).symm.trans hF
    refine V_aload_n dJ0_charAt_5068e_16 rfl ?_
    obtain ⟨a2, hoa2, ha2⟩ := ht.2.2
    refine V_gso dJ0_charAt_5068e_17 hoa2 zJ0_9 ?_
    refine V_iload_n dJ0_charAt_5068e_20 rfl ?_
    cases hF
  · replace hF := (if_neg c).symm.trans hF
    refine V_aload_n dJ0_charAt_5068e_7 rfl ?_
    obtain ⟨a3, hoa3, ha3⟩ := ht.2.2
    refine V_gso dJ0_charAt_5068e_8 hoa3 zJ0_9 ?_
    refine V_iload_n dJ0_charAt_5068e_11 rfl ?_
    obtain ⟨y4, hc, hF⟩ := bd hF
    refine V_callS dJ0_charAt_5068e_12 kJ0_495 (s_J1_charAt_3b067 ha3 G2 hc (by omega)) rfl (Nat.le_of_ble_eq_true rfl) (fun _ _ _ q => q.elim) ?_
    rintro _ _ ⟨rfl, rfl⟩
    obtain ⟨hz, hF⟩ := gv_out hF
    cases hF
    exact V_ireturn dJ0_charAt_5068e_15 rfl (congrArg Value.int (Decidable.not_not.mp hz)) ⟨rfl, rfl⟩
set_option maxRecDepth 100000 in
set_option maxHeartbeats 4000000 in
theorem w_X12_wordOf_L4 {l : Launch} {s0 : State} {D : va_G} {a0 : Array Value} {sh : List Sh} {f : Nat} {S : St} {i0 p0 : Nat} (hp0 : v_str s0 i0 p0) {r : Int64} {d : Nat} (G2 : GC2 l s0 D a0) (hd : 6 ≤ d + 1) : ∀ (n : Nat) (l1 : Int64) (l3 : Int32), F_X12_wordOf_L4 sh f S i0 n l1 l3 = some r → V l s0 D (d + 1) 0 0 mX12_wordOf (fun v h => v = some (.long r) ∧ h = wd s0.heap.size sh S) v_noX 4 [(0, .ref p0), (1, .long l1), (3, .int l3)] [] (wd s0.heap.size sh S) := by
  have G := G2.1
  intro n
  induction n with
  | zero => intro l1 l3 hF; cases hF
  | succ n ih =>
    intro l1 l3 hF
    unfold F_X12_wordOf_L4 at hF
    refine V_iload_n dX12_wordOf_4 rfl ?_
    refine V_aload_n dX12_wordOf_5 rfl ?_
    obtain ⟨y1, hc, hF⟩ := bd hF
    refine V_callVO dX12_wordOf_6 kX12_167 hp0.1 (s_J0_length_8abf5 hp0 G2 hc (by omega)) rfl (Nat.le_of_ble_eq_true rfl) (fun _ _ _ q => q.elim) ?_
    rintro _ _ ⟨rfl, rfl⟩
    refine V_icmp_ge (tgt := 36) dX12_wordOf_9 (by decide) (fun c => ?_) (fun c => ?_)
    · replace hF := (if_pos c).symm.trans hF
      refine V_lload_n dX12_wordOf_36 rfl ?_
      cases hF
      exact V_lreturn dX12_wordOf_37 rfl ⟨rfl, rfl⟩
    · replace hF := (if_neg c).symm.trans hF
      refine V_ldc2 dX12_wordOf_12 qX12_173 ?_
      refine V_lload_n dX12_wordOf_15 rfl ?_
      refine V_lmul dX12_wordOf_16 ?_
      refine V_aload_n dX12_wordOf_17 rfl ?_
      refine V_iload_n dX12_wordOf_18 rfl ?_
      obtain ⟨y2, hc, hF⟩ := bd hF
      refine V_callVO dX12_wordOf_19 kX12_175 hp0.1 (s_J0_charAt_5068e hp0 G2 hc (by omega)) rfl (Nat.le_of_ble_eq_true rfl) (fun _ _ _ q => q.elim) ?_
      rintro _ _ ⟨rfl, rfl⟩
      refine V_bipush (v := 97) dX12_wordOf_22 (by decide) ?_
      refine V_isub dX12_wordOf_24 ?_
      refine V_iconst (v := 1) dX12_wordOf_25 (by decide) ?_
      refine V_iadd dX12_wordOf_26 ?_
      refine V_i2l dX12_wordOf_27 ?_
      refine V_ladd dX12_wordOf_28 ?_
      obtain ⟨x3, qx3, hF⟩ := bnd_g hF
      refine B_lstore_n qx3 dX12_wordOf_29 (by decide) ?_
      obtain ⟨x4, qx4, hF⟩ := bnd_g hF
      refine B_iinc (v := 1) qx4 dX12_wordOf_30 rfl (by decide) (by decide) ?_
      refine V_goto (tgt := 4) dX12_wordOf_33 (by decide) ?_
      exact V_lv' (ih _ _ hF) (v_all_c rfl (v_all_c rfl (v_all_c rfl v_all_n)))
set_option maxRecDepth 100000 in
set_option maxHeartbeats 4000000 in
theorem s_X12_wordOf {l : Launch} {s0 : State} {D : va_G} {a0 : Array Value} {sh : List Sh} {f : Nat} {S : St} {i0 p0 : Nat} (hp0 : v_str s0 i0 p0) {r : Int64} (G2 : GC2 l s0 D a0) (hF : F_X12_wordOf sh f S i0 = some r) {d : Nat} (hd : 6 ≤ d) : Sp l s0 D d 0 0 mX12_wordOf (fun v h => v = some (.long r) ∧ h = wd s0.heap.size sh S) v_noX [.ref p0] (wd s0.heap.size sh S) := by
  have G := G2.1
  obtain ⟨d, rfl⟩ : ∃ e, d = e + 1 := ⟨d - 1, by omega⟩
  refine Sp.of (by decide +kernel) rfl (Nat.le_of_ble_eq_true rfl) ?_
  unfold F_X12_wordOf at hF
  refine V_lconst (v := 0) dX12_wordOf_0 (by decide) ?_
  refine V_lstore_n dX12_wordOf_1 (by decide) ?_
  refine V_iconst (v := 0) dX12_wordOf_2 (by decide) ?_
  refine V_istore_n dX12_wordOf_3 (by decide) ?_
  exact V_lv' (w_X12_wordOf_L4 hp0 G2 hd f _ _ hF) (v_all_c rfl (v_all_c rfl (v_all_c rfl v_all_n)))
set_option maxRecDepth 100000 in
set_option maxHeartbeats 4000000 in
theorem s_X12_isWord {l : Launch} {s0 : State} {D : va_G} {a0 : Array Value} {sh : List Sh} {f : Nat} {S : St} {t : Nat} {i1 p1 : Nat} (ht : isX12 sh t) (hp1 : v_str s0 i1 p1) {r : Int32} (G2 : GC2 l s0 D a0) (hF : F_X12_isWord sh f S t i1 = some r) {d : Nat} (hd : 7 ≤ d) : Sp l s0 D d 0 0 mX12_isWord (fun v h => v = some (.int r) ∧ h = wd s0.heap.size sh S) v_noX [.ref (s0.heap.size + t), .ref p1] (wd s0.heap.size sh S) := by
  have G := G2.1
  obtain ⟨d, rfl⟩ : ∃ e, d = e + 1 := ⟨d - 1, by omega⟩
  refine Sp.of (by decide +kernel) rfl (Nat.le_of_ble_eq_true rfl) ?_
  unfold F_X12_isWord at hF
  refine V_aload_n dX12_isWord_0 rfl ?_
  refine X_gI G dX12_isWord_1 fX12_186 ht.1 rfl ?_
  refine V_iconst (v := 2) dX12_isWord_4 (by decide) ?_
  refine V_icmp_ne (tgt := 24) dX12_isWord_5 (by decide) (fun c => ?_) (fun c => ?_)
  · replace hF := (if_neg c).symm.trans hF
    refine V_iconst (v := 0) dX12_isWord_24 (by decide) ?_
    cases hF
    exact V_ireturn dX12_isWord_25 rfl (by decide) ⟨rfl, rfl⟩
  · replace hF := (if_pos c).symm.trans hF
    refine V_aload_n dX12_isWord_8 rfl ?_
    refine X_gJ G dX12_isWord_9 fX12_196 ht.1 rfl ?_
    refine V_aload_n dX12_isWord_12 rfl ?_
    obtain ⟨y1, hc, hF⟩ := bd hF
    refine V_callS dX12_isWord_13 kX12_205 (s_X12_wordOf hp1 G2 hc (by omega)) rfl (Nat.le_of_ble_eq_true rfl) (fun _ _ _ q => q.elim) ?_
    rintro _ _ ⟨rfl, rfl⟩
    refine V_lcmp dX12_isWord_16 ?_
    refine V_if_ne (tgt := 24) dX12_isWord_17 (by decide) (fun c => ?_) (fun c => ?_)
    · replace hF := (if_neg c).symm.trans hF
      refine V_iconst (v := 0) dX12_isWord_24 (by decide) ?_
      cases hF
      exact V_ireturn dX12_isWord_25 rfl (by decide) ⟨rfl, rfl⟩
    · replace hF := (if_pos c).symm.trans hF
      refine V_iconst (v := 1) dX12_isWord_20 (by decide) ?_
      refine V_goto (tgt := 25) dX12_isWord_21 (by decide) ?_
      cases hF
      exact V_ireturn dX12_isWord_25 rfl (by decide) ⟨rfl, rfl⟩
set_option maxRecDepth 100000 in
set_option maxHeartbeats 4000000 in
theorem s_X12_isName {l : Launch} {s0 : State} {D : va_G} {a0 : Array Value} {sh : List Sh} {f : Nat} {S : St} {t : Nat} (ht : isX12 sh t) {r : Int32} (G2 : GC2 l s0 D a0) (hF : F_X12_isName sh f S t = some r) {d : Nat} (hd : 8 ≤ d) : Sp l s0 D d 0 0 mX12_isName (fun v h => v = some (.int r) ∧ h = wd s0.heap.size sh S) v_noX [.ref (s0.heap.size + t)] (wd s0.heap.size sh S) := by
  have G := G2.1
  obtain ⟨d, rfl⟩ : ∃ e, d = e + 1 := ⟨d - 1, by omega⟩
  refine Sp.of (by decide +kernel) rfl (Nat.le_of_ble_eq_true rfl) ?_
  unfold F_X12_isName at hF
  refine V_aload_n dX12_isName_0 rfl ?_
  refine X_gI G dX12_isName_1 fX12_186 ht.1 rfl ?_
  refine V_iconst (v := 2) dX12_isName_4 (by decide) ?_
  refine V_icmp_ne (tgt := 57) dX12_isName_5 (by decide) (fun c => ?_) (fun c => ?_)
  · replace hF := (if_neg c).symm.trans hF
    refine V_iconst (v := 0) dX12_isName_57 (by decide) ?_
    cases hF
    exact V_ireturn dX12_isName_58 rfl (by decide) ⟨rfl, rfl⟩
  · replace hF := (if_pos c).symm.trans hF
    refine V_aload_n dX12_isName_8 rfl ?_
    refine V_ldcs (i := 0) G2 dX12_isName_9 (by decide) rfl rfl (fun a1 ha1 => ?_)
    obtain ⟨y2, hc, hF⟩ := bd hF
    refine V_callV G dX12_isName_11 kX12_211 (wd_at ht.1) ⟨by decide, rfl⟩ (s_X12_isWord ht ha1 G2 hc (by omega)) rfl (Nat.le_of_ble_eq_true rfl) (fun _ _ _ q => q.elim) ?_
    rintro _ _ ⟨rfl, rfl⟩
    refine V_if_ne (tgt := 57) dX12_isName_14 (by decide) (fun c => ?_) (fun c => ?_)
    · replace hF := (if_neg c).symm.trans hF
      refine V_iconst (v := 0) dX12_isName_57 (by decide) ?_
      cases hF
      exact V_ireturn dX12_isName_58 rfl (by decide) ⟨rfl, rfl⟩
    · replace hF := (if_pos c).symm.trans hF
      refine V_aload_n dX12_isName_17 rfl ?_
      refine V_ldcs (i := 1) G2 dX12_isName_18 (by decide) rfl rfl (fun a3 ha3 => ?_)
      obtain ⟨y4, hc, hF⟩ := bd hF
      refine V_callV G dX12_isName_20 kX12_211 (wd_at ht.1) ⟨by decide, rfl⟩ (s_X12_isWord ht ha3 G2 hc (by omega)) rfl (Nat.le_of_ble_eq_true rfl) (fun _ _ _ q => q.elim) ?_
      rintro _ _ ⟨rfl, rfl⟩
      refine V_if_ne (tgt := 57) dX12_isName_23 (by decide) (fun c => ?_) (fun c => ?_)
      · replace hF := (if_neg c).symm.trans hF
        refine V_iconst (v := 0) dX12_isName_57 (by decide) ?_
        cases hF
        exact V_ireturn dX12_isName_58 rfl (by decide) ⟨rfl, rfl⟩
      · replace hF := (if_pos c).symm.trans hF
        refine V_aload_n dX12_isName_26 rfl ?_
        refine V_ldcs (i := 2) G2 dX12_isName_27 (by decide) rfl rfl (fun a5 ha5 => ?_)
        obtain ⟨y6, hc, hF⟩ := bd hF
        refine V_callV G dX12_isName_29 kX12_211 (wd_at ht.1) ⟨by decide, rfl⟩ (s_X12_isWord ht ha5 G2 hc (by omega)) rfl (Nat.le_of_ble_eq_true rfl) (fun _ _ _ q => q.elim) ?_
        rintro _ _ ⟨rfl, rfl⟩
        refine V_if_ne (tgt := 57) dX12_isName_32 (by decide) (fun c => ?_) (fun c => ?_)
        · replace hF := (if_neg c).symm.trans hF
          refine V_iconst (v := 0) dX12_isName_57 (by decide) ?_
          cases hF
          exact V_ireturn dX12_isName_58 rfl (by decide) ⟨rfl, rfl⟩
        · replace hF := (if_pos c).symm.trans hF
          refine V_aload_n dX12_isName_35 rfl ?_
          refine V_ldcs (i := 3) G2 dX12_isName_36 (by decide) rfl rfl (fun a7 ha7 => ?_)
          obtain ⟨y8, hc, hF⟩ := bd hF
          refine V_callV G dX12_isName_38 kX12_211 (wd_at ht.1) ⟨by decide, rfl⟩ (s_X12_isWord ht ha7 G2 hc (by omega)) rfl (Nat.le_of_ble_eq_true rfl) (fun _ _ _ q => q.elim) ?_
          rintro _ _ ⟨rfl, rfl⟩
          refine V_if_ne (tgt := 57) dX12_isName_41 (by decide) (fun c => ?_) (fun c => ?_)
          · replace hF := (if_neg c).symm.trans hF
            refine V_iconst (v := 0) dX12_isName_57 (by decide) ?_
            cases hF
            exact V_ireturn dX12_isName_58 rfl (by decide) ⟨rfl, rfl⟩
          · replace hF := (if_pos c).symm.trans hF
            refine V_aload_n dX12_isName_44 rfl ?_
            refine V_ldcs (i := 4) G2 dX12_isName_45 (by decide) rfl rfl (fun a9 ha9 => ?_)
            obtain ⟨y10, hc, hF⟩ := bd hF
            refine V_callV G dX12_isName_47 kX12_211 (wd_at ht.1) ⟨by decide, rfl⟩ (s_X12_isWord ht ha9 G2 hc (by omega)) rfl (Nat.le_of_ble_eq_true rfl) (fun _ _ _ q => q.elim) ?_
            rintro _ _ ⟨rfl, rfl⟩
            refine V_if_ne (tgt := 57) dX12_isName_50 (by decide) (fun c => ?_) (fun c => ?_)
            · replace hF := (if_neg c).symm.trans hF
              refine V_iconst (v := 0) dX12_isName_57 (by decide) ?_
              cases hF
              exact V_ireturn dX12_isName_58 rfl (by decide) ⟨rfl, rfl⟩
            · replace hF := (if_pos c).symm.trans hF
              refine V_iconst (v := 1) dX12_isName_53 (by decide) ?_
              refine V_goto (tgt := 58) dX12_isName_54 (by decide) ?_
              cases hF
              exact V_ireturn dX12_isName_58 rfl (by decide) ⟨rfl, rfl⟩
set_option maxRecDepth 100000 in
set_option maxHeartbeats 4000000 in
theorem s_X12_stopAt {l : Launch} {s0 : State} {D : va_G} {a0 : Array Value} {sh : List Sh} {f : Nat} {S : St} {t : Nat} {p1 : Int32} {p2 : Int32} (ht : isX12 sh t) {r : Nat × St} (G : GC l s0 D a0) (hF : F_X12_stopAt sh f S t p1 p2 = some r) {d : Nat} (hd : 1 ≤ d) : Sp l s0 D d 0 0 mX12_stopAt (fun v h => v = some (.ref (s0.heap.size + r.1)) ∧ h = wd s0.heap.size sh r.2) v_noX [.ref (s0.heap.size + t), .int p1, .int p2] (wd s0.heap.size sh S) := by
  obtain ⟨d, rfl⟩ : ∃ e, d = e + 1 := ⟨d - 1, by omega⟩
  refine Sp.of (by decide +kernel) rfl (Nat.le_of_ble_eq_true rfl) ?_
  unfold F_X12_stopAt at hF
  refine V_aload_n dX12_stopAt_0 rfl ?_
  refine X_gC G dX12_stopAt_1 fX12_26 ht.1 rfl ?_
  refine V_iload_n dX12_stopAt_4 rfl ?_
  refine X_pI G dX12_stopAt_5 gX12_153 ht.2.1 rfl rfl rfl ?_
  obtain ⟨S1, qS1, hF⟩ := bnd_g hF
  refine V_eqS qS1 ?_
  refine V_aload_n dX12_stopAt_8 rfl ?_
  refine X_gC G dX12_stopAt_9 fX12_26 ht.1 rfl ?_
  refine V_iload_n dX12_stopAt_12 rfl ?_
  refine X_pI G dX12_stopAt_13 gX12_156 ht.2.1 rfl rfl rfl ?_
  obtain ⟨S2, qS2, hF⟩ := bnd_g hF
  refine V_eqS qS2 ?_
  refine V_aload_n dX12_stopAt_16 rfl ?_
  refine X_gC G dX12_stopAt_17 fX12_26 ht.1 rfl ?_
  cases hF
  exact V_areturn dX12_stopAt_20 rfl ⟨rfl, rfl⟩
set_option maxRecDepth 100000 in
set_option maxHeartbeats 4000000 in
theorem s_X12_stop {l : Launch} {s0 : State} {D : va_G} {a0 : Array Value} {sh : List Sh} {f : Nat} {S : St} {t : Nat} {p1 : Int32} (ht : isX12 sh t) {r : Nat × St} (G : GC l s0 D a0) (hF : F_X12_stop sh f S t p1 = some r) {d : Nat} (hd : 2 ≤ d) : Sp l s0 D d 0 0 mX12_stop (fun v h => v = some (.ref (s0.heap.size + r.1)) ∧ h = wd s0.heap.size sh r.2) v_noX [.ref (s0.heap.size + t), .int p1] (wd s0.heap.size sh S) := by
  obtain ⟨d, rfl⟩ : ∃ e, d = e + 1 := ⟨d - 1, by omega⟩
  refine Sp.of (by decide +kernel) rfl (Nat.le_of_ble_eq_true rfl) ?_
  unfold F_X12_stop at hF
  refine V_aload_n dX12_stop_0 rfl ?_
  refine V_iload_n dX12_stop_1 rfl ?_
  refine V_aload_n dX12_stop_2 rfl ?_
  refine X_gI G dX12_stop_3 fX12_159 ht.1 rfl ?_
  obtain ⟨y1, hc, hF⟩ := bd hF
  refine V_callV G dX12_stop_6 kX12_160 (wd_at ht.1) ⟨by decide, rfl⟩ (s_X12_stopAt ht G hc (by omega)) rfl (Nat.le_of_ble_eq_true rfl) (fun _ _ _ q => q.elim) ?_
  rintro _ _ ⟨rfl, rfl⟩
  obtain ⟨hy1, hF⟩ := gv_out hF
  replace hy1 := ckX11_ok (Decidable.not_not.mp hy1)
  cases hF
  exact V_areturn dX12_stop_9 rfl ⟨rfl, rfl⟩

