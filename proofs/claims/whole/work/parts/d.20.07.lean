set_option maxRecDepth 100000 in
set_option maxHeartbeats 4000000 in
theorem s_X12_prime {l : Launch} {s0 : State} {D : va_G} {a0 : Array Value} {sh : List Sh} {f : Nat} {S : St} {p0 : Int32} {r : Int32} (G : GC l s0 D a0) (hF : F_X12_prime sh f S p0 = some r) {d : Nat} (hd : 1 ≤ d) : Sp l s0 D d 0 0 mX12_prime (fun v h => v = some (.int r) ∧ h = wd s0.heap.size sh S) v_noX [.int p0] (wd s0.heap.size sh S) := by
  obtain ⟨d, rfl⟩ : ∃ e, d = e + 1 := ⟨d - 1, by omega⟩
  refine Sp.of (by decide +kernel) rfl (Nat.le_of_ble_eq_true rfl) ?_
  unfold F_X12_prime at hF
  refine V_iload_n dX12_prime_0 rfl ?_
  refine V_if_ne (tgt := 10) dX12_prime_1 (by decide) (fun c => ?_) (fun c => ?_)
  · replace hF := (if_neg c).symm.trans hF
    refine V_iload_n dX12_prime_10 rfl ?_
    refine V_iconst (v := 1) dX12_prime_11 (by decide) ?_
    refine V_icmp_ne (tgt := 21) dX12_prime_12 (by decide) (fun c => ?_) (fun c => ?_)
    · replace hF := (if_neg c).symm.trans hF
      refine V_iload_n dX12_prime_21 rfl ?_
      refine V_iconst (v := 2) dX12_prime_22 (by decide) ?_
      refine V_icmp_ne (tgt := 32) dX12_prime_23 (by decide) (fun c => ?_) (fun c => ?_)
      · replace hF := (if_neg c).symm.trans hF
        refine V_ldcw dX12_prime_32 qX12_547 ?_
        cases hF
        exact V_ireturn dX12_prime_35 rfl rfl ⟨rfl, rfl⟩
      · replace hF := (if_pos c).symm.trans hF
        refine V_ldcw dX12_prime_26 qX12_546 ?_
        refine V_goto (tgt := 35) dX12_prime_29 (by decide) ?_
        cases hF
        exact V_ireturn dX12_prime_35 rfl rfl ⟨rfl, rfl⟩
    · replace hF := (if_pos c).symm.trans hF
      refine V_ldcw dX12_prime_15 qX12_545 ?_
      refine V_goto (tgt := 35) dX12_prime_18 (by decide) ?_
      cases hF
      exact V_ireturn dX12_prime_35 rfl rfl ⟨rfl, rfl⟩
  · replace hF := (if_pos c).symm.trans hF
    refine V_ldcw dX12_prime_4 qX12_544 ?_
    refine V_goto (tgt := 35) dX12_prime_7 (by decide) ?_
    cases hF
    exact V_ireturn dX12_prime_35 rfl rfl ⟨rfl, rfl⟩
set_option maxRecDepth 100000 in
set_option maxHeartbeats 4000000 in
theorem s_X12_mod {l : Launch} {s0 : State} {D : va_G} {a0 : Array Value} {sh : List Sh} {f : Nat} {S : St} {p0 : Int64} {p2 : Int32} {r : Int32} (G : GC l s0 D a0) (hF : F_X12_mod sh f S p0 p2 = some r) {d : Nat} (hd : 1 ≤ d) : Sp l s0 D d 0 0 mX12_mod (fun v h => v = some (.int r) ∧ h = wd s0.heap.size sh S) v_noX [.long p0, .int p2] (wd s0.heap.size sh S) := by
  obtain ⟨d, rfl⟩ : ∃ e, d = e + 1 := ⟨d - 1, by omega⟩
  refine Sp.of (by decide +kernel) rfl (Nat.le_of_ble_eq_true rfl) ?_
  unfold F_X12_mod at hF
  refine V_lload_n dX12_mod_0 rfl ?_
  refine V_iload_n dX12_mod_1 rfl ?_
  refine V_i2l dX12_mod_2 ?_
  obtain ⟨hz, hF⟩ := gv_out hF
  refine V_lrem dX12_mod_3 hz ?_
  obtain ⟨x1, qx1, hF⟩ := bnd_g hF
  refine B_lstore_n qx1 dX12_mod_4 (by decide) ?_
  refine V_lload_n dX12_mod_5 rfl ?_
  refine V_lconst (v := 0) dX12_mod_6 (by decide) ?_
  refine V_lcmp dX12_mod_7 ?_
  refine V_if_ge (tgt := 18) dX12_mod_8 (by decide) (fun c => ?_) (fun c => ?_)
  · replace hF := (if_pos c).symm.trans hF
    refine V_lload_n dX12_mod_18 rfl ?_
    refine V_l2i dX12_mod_19 ?_
    cases hF
    exact V_ireturn dX12_mod_20 rfl rfl ⟨rfl, rfl⟩
  · replace hF := (if_neg c).symm.trans hF
    refine V_lload_n dX12_mod_11 rfl ?_
    refine V_iload_n dX12_mod_12 rfl ?_
    refine V_i2l dX12_mod_13 ?_
    refine V_ladd dX12_mod_14 ?_
    refine V_goto (tgt := 19) dX12_mod_15 (by decide) ?_
    refine V_l2i dX12_mod_19 ?_
    cases hF
    exact V_ireturn dX12_mod_20 rfl rfl ⟨rfl, rfl⟩
set_option maxRecDepth 100000 in
set_option maxHeartbeats 4000000 in
theorem w_X12_inverse_L11 {l : Launch} {s0 : State} {D : va_G} {a0 : Array Value} {sh : List Sh} {f : Nat} {S : St} {p0 : Int32} {p1 : Int32} {r : Int32} {d : Nat} (G : GC l s0 D a0) (hd : 1 ≤ d + 1) : ∀ (n : Nat) (l2 : Int64) (l4 : Int64) (l6 : Int32), F_X12_inverse_L11 sh f S p0 p1 n l2 l4 l6 = some r → V l s0 D (d + 1) 0 0 mX12_inverse (fun v h => v = some (.int r) ∧ h = wd s0.heap.size sh S) v_noX 11 [(1, .int p1), (2, .long l2), (4, .long l4), (6, .int l6)] [] (wd s0.heap.size sh S) := by
  intro n
  induction n with
  | zero => intro l2 l4 l6 hF; cases hF
  | succ n ih =>
    intro l2 l4 l6 hF
    unfold F_X12_inverse_L11 at hF
    refine V_iload dX12_inverse_11 rfl ?_
    refine V_if_le (tgt := 51) dX12_inverse_13 (by decide) (fun c => ?_) (fun c => ?_)
    · replace hF := (if_pos c).symm.trans hF
      refine V_lload_n dX12_inverse_51 rfl ?_
      refine V_l2i dX12_inverse_52 ?_
      cases hF
      exact V_ireturn dX12_inverse_53 rfl rfl ⟨rfl, rfl⟩
    · replace hF := (if_neg c).symm.trans hF
      refine V_iload dX12_inverse_16 rfl ?_
      refine V_iconst (v := 1) dX12_inverse_18 (by decide) ?_
      refine V_iand dX12_inverse_19 ?_
      refine V_iconst (v := 1) dX12_inverse_20 (by decide) ?_
      refine V_icmp_ne (tgt := 32) dX12_inverse_21 (by decide) (fun c => ?_) (fun c => ?_)
      · replace hF := (if_neg c).symm.trans hF
        refine V_lload dX12_inverse_32 rfl ?_
        refine V_lload dX12_inverse_34 rfl ?_
        refine V_lmul dX12_inverse_36 ?_
        refine V_iload_n dX12_inverse_37 rfl ?_
        refine V_i2l dX12_inverse_38 ?_
        obtain ⟨hz, hF⟩ := gv_out hF
        refine V_lrem dX12_inverse_39 hz ?_
        obtain ⟨x1, qx1, hF⟩ := bnd_g hF
        refine B_lstore qx1 dX12_inverse_40 (by decide) ?_
        refine V_iload dX12_inverse_42 rfl ?_
        refine V_iconst (v := 1) dX12_inverse_44 (by decide) ?_
        refine V_ishr dX12_inverse_45 ?_
        obtain ⟨x2, qx2, hF⟩ := bnd_g hF
        refine B_istore qx2 dX12_inverse_46 (by decide) ?_
        refine V_goto (tgt := 11) dX12_inverse_48 (by decide) ?_
        exact V_lv' (ih _ _ _ hF) (v_all_c rfl (v_all_c rfl (v_all_c rfl (v_all_c rfl v_all_n))))
      · replace hF := (if_pos c).symm.trans hF
        refine V_lload_n dX12_inverse_24 rfl ?_
        refine V_lload dX12_inverse_25 rfl ?_
        refine V_lmul dX12_inverse_27 ?_
        refine V_iload_n dX12_inverse_28 rfl ?_
        refine V_i2l dX12_inverse_29 ?_
        obtain ⟨hz, hF⟩ := gv_out hF
        refine V_lrem dX12_inverse_30 hz ?_
        obtain ⟨x3, qx3, hF⟩ := bnd_g hF
        refine B_lstore_n qx3 dX12_inverse_31 (by decide) ?_
        refine V_lload dX12_inverse_32 rfl ?_
        refine V_lload dX12_inverse_34 rfl ?_
        refine V_lmul dX12_inverse_36 ?_
        refine V_iload_n dX12_inverse_37 rfl ?_
        refine V_i2l dX12_inverse_38 ?_
        obtain ⟨hz, hF⟩ := gv_out hF
        refine V_lrem dX12_inverse_39 hz ?_
        obtain ⟨x4, qx4, hF⟩ := bnd_g hF
        refine B_lstore qx4 dX12_inverse_40 (by decide) ?_
        refine V_iload dX12_inverse_42 rfl ?_
        refine V_iconst (v := 1) dX12_inverse_44 (by decide) ?_
        refine V_ishr dX12_inverse_45 ?_
        obtain ⟨x5, qx5, hF⟩ := bnd_g hF
        refine B_istore qx5 dX12_inverse_46 (by decide) ?_
        refine V_goto (tgt := 11) dX12_inverse_48 (by decide) ?_
        exact V_lv' (ih _ _ _ hF) (v_all_c rfl (v_all_c rfl (v_all_c rfl (v_all_c rfl v_all_n))))
set_option maxRecDepth 100000 in
set_option maxHeartbeats 4000000 in
theorem s_X12_inverse {l : Launch} {s0 : State} {D : va_G} {a0 : Array Value} {sh : List Sh} {f : Nat} {S : St} {p0 : Int32} {p1 : Int32} {r : Int32} (G : GC l s0 D a0) (hF : F_X12_inverse sh f S p0 p1 = some r) {d : Nat} (hd : 1 ≤ d) : Sp l s0 D d 0 0 mX12_inverse (fun v h => v = some (.int r) ∧ h = wd s0.heap.size sh S) v_noX [.int p0, .int p1] (wd s0.heap.size sh S) := by
  obtain ⟨d, rfl⟩ : ∃ e, d = e + 1 := ⟨d - 1, by omega⟩
  refine Sp.of (by decide +kernel) rfl (Nat.le_of_ble_eq_true rfl) ?_
  unfold F_X12_inverse at hF
  refine V_lconst (v := 1) dX12_inverse_0 (by decide) ?_
  refine V_lstore_n dX12_inverse_1 (by decide) ?_
  refine V_iload_n dX12_inverse_2 rfl ?_
  refine V_i2l dX12_inverse_3 ?_
  obtain ⟨x1, qx1, hF⟩ := bnd_g hF
  refine B_lstore qx1 dX12_inverse_4 (by decide) ?_
  refine V_iload_n dX12_inverse_6 rfl ?_
  refine V_iconst (v := 2) dX12_inverse_7 (by decide) ?_
  refine V_isub dX12_inverse_8 ?_
  obtain ⟨x2, qx2, hF⟩ := bnd_g hF
  refine B_istore qx2 dX12_inverse_9 (by decide) ?_
  exact V_lv' (w_X12_inverse_L11  G hd f _ _ _ hF) (v_all_c rfl (v_all_c rfl (v_all_c rfl (v_all_c rfl v_all_n))))
set_option maxRecDepth 100000 in
set_option maxHeartbeats 4000000 in
theorem s_X12_number {l : Launch} {s0 : State} {D : va_G} {a0 : Array Value} {sh : List Sh} {f : Nat} {S : St} {t : Nat} {p1 : Int32} {p2 : Int32} (ht : isX12 sh t) {r : Int32 × St} (G : GC l s0 D a0) (hF : F_X12_number sh f S t p1 p2 = some r) {d : Nat} (hd : 2 ≤ d) : Sp l s0 D d 0 0 mX12_number (fun v h => v = some (.int r.1) ∧ h = wd s0.heap.size sh r.2) v_noX [.ref (s0.heap.size + t), .int p1, .int p2] (wd s0.heap.size sh S) := by
  obtain ⟨d, rfl⟩ : ∃ e, d = e + 1 := ⟨d - 1, by omega⟩
  refine Sp.of (by decide +kernel) rfl (Nat.le_of_ble_eq_true rfl) ?_
  unfold F_X12_number at hF
  refine V_aload_n dX12_number_0 rfl ?_
  refine V_iconst (v := 0) dX12_number_1 (by decide) ?_
  refine X_pI G dX12_number_2 gX12_147 ht.1 rfl rfl rfl ?_
  obtain ⟨S1, qS1, hF⟩ := bnd_g hF
  refine V_eqS qS1 ?_
  refine V_iload_n dX12_number_5 rfl ?_
  refine V_if_lt (tgt := 17) dX12_number_6 (by decide) (fun c => ?_) (fun c => ?_)
  · replace hF := (if_pos c).symm.trans hF
    refine V_aload_n dX12_number_17 rfl ?_
    refine V_iconst (v := 1) dX12_number_18 (by decide) ?_
    obtain ⟨y2, hc, hF⟩ := bd hF
    refine V_callV G dX12_number_19 kX12_548 (wd_at ht.1) ⟨by decide, rfl⟩ (s_X12_denied ht G hc (by omega)) rfl (Nat.le_of_ble_eq_true rfl) (fun _ _ _ q => q.elim) ?_
    rintro _ _ ⟨rfl, rfl⟩
    obtain ⟨hz, hF⟩ := gv_out hF
    cases hF
    exact V_ireturn dX12_number_22 rfl (nb_n hz) ⟨rfl, rfl⟩
  · replace hF := (if_neg c).symm.trans hF
    refine V_iload_n dX12_number_9 rfl ?_
    refine V_aload_n dX12_number_10 rfl ?_
    refine X_gI G dX12_number_11 fX12_315 ht.1 rfl ?_
    refine V_icmp_lt (tgt := 23) dX12_number_14 (by decide) (fun c => ?_) (fun c => ?_)
    · replace hF := (if_pos c).symm.trans hF
      refine V_iload_n dX12_number_23 rfl ?_
      refine V_sipush (v := -999) dX12_number_24 (by decide) ?_
      refine V_sipush (v := 999) dX12_number_27 (by decide) ?_
      obtain ⟨y3, hc, hF⟩ := bd hF
      refine V_callS dX12_number_30 kX12_242 (s_X12_in G hc (by omega)) rfl (Nat.le_of_ble_eq_true rfl) (fun _ _ _ q => q.elim) ?_
      rintro _ _ ⟨rfl, rfl⟩
      refine V_if_ne (tgt := 42) dX12_number_33 (by decide) (fun c => ?_) (fun c => ?_)
      · replace hF := (if_neg c).symm.trans hF
        refine V_aload_n dX12_number_42 rfl ?_
        refine X_gC G dX12_number_43 fX12_38 ht.1 rfl ?_
        refine V_iload_n dX12_number_46 rfl ?_
        refine V_iload_n dX12_number_47 rfl ?_
        obtain ⟨hz, hF⟩ := gv_out hF
        refine X_iast dX12_number_48 ht.2.2.2.2.1 hz ?_
        obtain ⟨S4, qS4, hF⟩ := bnd_g hF
        refine V_eqS qS4 ?_
        refine V_aload_n dX12_number_49 rfl ?_
        obtain ⟨y5, hc, hF⟩ := bd hF
        refine V_callV G dX12_number_50 kX12_551 (wd_at ht.1) ⟨by decide, rfl⟩ (s_X12_granted ht G hc (by omega)) rfl (Nat.le_of_ble_eq_true rfl) (fun _ _ _ q => q.elim) ?_
        rintro _ _ ⟨rfl, rfl⟩
        obtain ⟨hz, hF⟩ := gv_out hF
        cases hF
        exact V_ireturn dX12_number_53 rfl (nb_n hz) ⟨rfl, rfl⟩
      · replace hF := (if_pos c).symm.trans hF
        refine V_aload_n dX12_number_36 rfl ?_
        refine V_iconst (v := 2) dX12_number_37 (by decide) ?_
        obtain ⟨y6, hc, hF⟩ := bd hF
        refine V_callV G dX12_number_38 kX12_548 (wd_at ht.1) ⟨by decide, rfl⟩ (s_X12_denied ht G hc (by omega)) rfl (Nat.le_of_ble_eq_true rfl) (fun _ _ _ q => q.elim) ?_
        rintro _ _ ⟨rfl, rfl⟩
        obtain ⟨hz, hF⟩ := gv_out hF
        cases hF
        exact V_ireturn dX12_number_41 rfl (nb_n hz) ⟨rfl, rfl⟩
    · replace hF := (if_neg c).symm.trans hF
      refine V_aload_n dX12_number_17 rfl ?_
      refine V_iconst (v := 1) dX12_number_18 (by decide) ?_
      obtain ⟨y7, hc, hF⟩ := bd hF
      refine V_callV G dX12_number_19 kX12_548 (wd_at ht.1) ⟨by decide, rfl⟩ (s_X12_denied ht G hc (by omega)) rfl (Nat.le_of_ble_eq_true rfl) (fun _ _ _ q => q.elim) ?_
      rintro _ _ ⟨rfl, rfl⟩
      obtain ⟨hz, hF⟩ := gv_out hF
      cases hF
      exact V_ireturn dX12_number_22 rfl (nb_n hz) ⟨rfl, rfl⟩
set_option maxRecDepth 100000 in
set_option maxHeartbeats 4000000 in
theorem s_X12_letter {l : Launch} {s0 : State} {D : va_G} {a0 : Array Value} {sh : List Sh} {f : Nat} {S : St} {t : Nat} {p1 : Int32} {p2 : Int32} (ht : isX12 sh t) {r : Int32 × St} (G : GC l s0 D a0) (hF : F_X12_letter sh f S t p1 p2 = some r) {d : Nat} (hd : 2 ≤ d) : Sp l s0 D d 0 0 mX12_letter (fun v h => v = some (.int r.1) ∧ h = wd s0.heap.size sh r.2) v_noX [.ref (s0.heap.size + t), .int p1, .int p2] (wd s0.heap.size sh S) := by
  obtain ⟨d, rfl⟩ : ∃ e, d = e + 1 := ⟨d - 1, by omega⟩
  refine Sp.of (by decide +kernel) rfl (Nat.le_of_ble_eq_true rfl) ?_
  unfold F_X12_letter at hF
  refine V_aload_n dX12_letter_0 rfl ?_
  refine V_iconst (v := 0) dX12_letter_1 (by decide) ?_
  refine X_pI G dX12_letter_2 gX12_147 ht.1 rfl rfl rfl ?_
  obtain ⟨S1, qS1, hF⟩ := bnd_g hF
  refine V_eqS qS1 ?_
  refine V_aload_n dX12_letter_5 rfl ?_
  cases hr : sR S1 t 5 with
  | none =>
    replace hF := oN_n hr hF
    refine X_gN G dX12_letter_6 fX12_312 ht.1 rfl hr ?_
    refine V_ifnullN (tgt := 21) dX12_letter_9 (by decide) ?_
    refine V_aload_n dX12_letter_21 rfl ?_
    refine V_iconst (v := 1) dX12_letter_22 (by decide) ?_
    obtain ⟨y3, hc, hF⟩ := bd hF
    refine V_callV G dX12_letter_23 kX12_548 (wd_at ht.1) ⟨by decide, rfl⟩ (s_X12_denied ht G hc (by omega)) rfl (Nat.le_of_ble_eq_true rfl) (fun _ _ _ q => q.elim) ?_
    rintro _ _ ⟨rfl, rfl⟩
    obtain ⟨hz, hF⟩ := gv_out hF
    cases hF
    exact V_ireturn dX12_letter_26 rfl (nb_n hz) ⟨rfl, rfl⟩
  | some z =>
    replace hF := oN_s hr hF
    refine X_gR G dX12_letter_6 fX12_312 ht.1 rfl hr ?_
    refine V_ifnull dX12_letter_9 ?_
    refine V_iload_n dX12_letter_12 rfl ?_
    refine V_iconst (v := 0) dX12_letter_13 (by decide) ?_
    refine V_iconst (v := 2) dX12_letter_14 (by decide) ?_
    obtain ⟨y4, hc, hF⟩ := bd hF
    refine V_callS dX12_letter_15 kX12_242 (s_X12_in G hc (by omega)) rfl (Nat.le_of_ble_eq_true rfl) (fun _ _ _ q => q.elim) ?_
    rintro _ _ ⟨rfl, rfl⟩
    refine V_if_ne (tgt := 27) dX12_letter_18 (by decide) (fun c => ?_) (fun c => ?_)
    · replace hF := (if_neg c).symm.trans hF
      refine V_iload_n dX12_letter_27 rfl ?_
      refine V_bipush (v := -99) dX12_letter_28 (by decide) ?_
      refine V_bipush (v := 99) dX12_letter_30 (by decide) ?_
      obtain ⟨y5, hc, hF⟩ := bd hF
      refine V_callS dX12_letter_32 kX12_242 (s_X12_in G hc (by omega)) rfl (Nat.le_of_ble_eq_true rfl) (fun _ _ _ q => q.elim) ?_
      rintro _ _ ⟨rfl, rfl⟩
      refine V_if_ne (tgt := 44) dX12_letter_35 (by decide) (fun c => ?_) (fun c => ?_)
      · replace hF := (if_neg c).symm.trans hF
        refine V_aload_n dX12_letter_44 rfl ?_
        refine X_gC G dX12_letter_45 fX12_41 ht.1 rfl ?_
        refine V_iload_n dX12_letter_48 rfl ?_
        refine V_iload_n dX12_letter_49 rfl ?_
        obtain ⟨hz, hF⟩ := gv_out hF
        refine X_iast dX12_letter_50 ht.2.2.2.2.2.1 hz ?_
        obtain ⟨S6, qS6, hF⟩ := bnd_g hF
        refine V_eqS qS6 ?_
        refine V_aload_n dX12_letter_51 rfl ?_
        obtain ⟨y7, hc, hF⟩ := bd hF
        refine V_callV G dX12_letter_52 kX12_551 (wd_at ht.1) ⟨by decide, rfl⟩ (s_X12_granted ht G hc (by omega)) rfl (Nat.le_of_ble_eq_true rfl) (fun _ _ _ q => q.elim) ?_
        rintro _ _ ⟨rfl, rfl⟩
        obtain ⟨hz, hF⟩ := gv_out hF
        cases hF
        exact V_ireturn dX12_letter_55 rfl (nb_n hz) ⟨rfl, rfl⟩
      · replace hF := (if_pos c).symm.trans hF
        refine V_aload_n dX12_letter_38 rfl ?_
        refine V_iconst (v := 2) dX12_letter_39 (by decide) ?_
        obtain ⟨y8, hc, hF⟩ := bd hF
        refine V_callV G dX12_letter_40 kX12_548 (wd_at ht.1) ⟨by decide, rfl⟩ (s_X12_denied ht G hc (by omega)) rfl (Nat.le_of_ble_eq_true rfl) (fun _ _ _ q => q.elim) ?_
        rintro _ _ ⟨rfl, rfl⟩
        obtain ⟨hz, hF⟩ := gv_out hF
        cases hF
        exact V_ireturn dX12_letter_43 rfl (nb_n hz) ⟨rfl, rfl⟩
    · replace hF := (if_pos c).symm.trans hF
      refine V_aload_n dX12_letter_21 rfl ?_
      refine V_iconst (v := 1) dX12_letter_22 (by decide) ?_
      obtain ⟨y9, hc, hF⟩ := bd hF
      refine V_callV G dX12_letter_23 kX12_548 (wd_at ht.1) ⟨by decide, rfl⟩ (s_X12_denied ht G hc (by omega)) rfl (Nat.le_of_ble_eq_true rfl) (fun _ _ _ q => q.elim) ?_
      rintro _ _ ⟨rfl, rfl⟩
      obtain ⟨hz, hF⟩ := gv_out hF
      cases hF
      exact V_ireturn dX12_letter_26 rfl (nb_n hz) ⟨rfl, rfl⟩
set_option maxRecDepth 100000 in
set_option maxHeartbeats 4000000 in
theorem w_X12_flow_L4 {l : Launch} {s0 : State} {D : va_G} {a0 : Array Value} {sh : List Sh} {f : Nat} {S : St} {p0 : Nat} {p1 : Int32} (hp0 : isX10 sh p0) {r : Int32} {d : Nat} (G : GC l s0 D a0) (hd : 1 ≤ d + 1) : ∀ (n : Nat) (l2 : Int32) (l3 : Int32), F_X12_flow_L4 sh f S p0 p1 n l2 l3 = some r → V l s0 D (d + 1) 0 0 mX12_flow (fun v h => v = some (.int r) ∧ h = wd s0.heap.size sh S) v_noX 4 [(0, .ref (s0.heap.size + p0)), (1, .int p1), (2, .int l2), (3, .int l3)] [] (wd s0.heap.size sh S) := by
  intro n
  induction n with
  | zero => intro l2 l3 hF; cases hF
  | succ n ih =>
    intro l2 l3 hF
    unfold F_X12_flow_L4 at hF
    refine V_iload_n dX12_flow_4 rfl ?_
    refine V_aload_n dX12_flow_5 rfl ?_
    refine X_gI G dX12_flow_6 fX12_333 hp0.1 rfl ?_
    refine V_icmp_ge (tgt := 40) dX12_flow_9 (by decide) (fun c => ?_) (fun c => ?_)
    · replace hF := (if_pos c).symm.trans hF
      refine V_iload_n dX12_flow_40 rfl ?_
      cases hF
      exact V_ireturn dX12_flow_41 rfl rfl ⟨rfl, rfl⟩
    · replace hF := (if_neg c).symm.trans hF
      refine V_iload_n dX12_flow_12 rfl ?_
      refine V_iload_n dX12_flow_13 rfl ?_
      refine V_iload_n dX12_flow_14 rfl ?_
      refine V_ishr dX12_flow_15 ?_
      refine V_iconst (v := 1) dX12_flow_16 (by decide) ?_
      refine V_iand dX12_flow_17 ?_
      refine V_iconst (v := 1) dX12_flow_18 (by decide) ?_
      refine V_icmp_ne (tgt := 31) dX12_flow_19 (by decide) (fun c => ?_) (fun c => ?_)
      · replace hF := (if_neg c).symm.trans hF
        refine V_iconst (v := 0) dX12_flow_31 (by decide) ?_
        refine V_iadd dX12_flow_32 ?_
        obtain ⟨x1, qx1, hF⟩ := bnd_g hF
        refine B_istore_n qx1 dX12_flow_33 (by decide) ?_
        obtain ⟨x2, qx2, hF⟩ := bnd_g hF
        refine B_iinc (v := 1) qx2 dX12_flow_34 rfl (by decide) (by decide) ?_
        refine V_goto (tgt := 4) dX12_flow_37 (by decide) ?_
        exact V_lv' (ih _ _ hF) (v_all_c rfl (v_all_c rfl (v_all_c rfl (v_all_c rfl v_all_n))))
      · replace hF := (if_pos c).symm.trans hF
        refine V_aload_n dX12_flow_22 rfl ?_
        refine X_gC G dX12_flow_23 fX12_426 hp0.1 rfl ?_
        refine V_iload_n dX12_flow_26 rfl ?_
        obtain ⟨hz, hF⟩ := gv_out hF
        refine X_iald dX12_flow_27 hp0.2.2.1 hz ?_
        refine V_goto (tgt := 32) dX12_flow_28 (by decide) ?_
        refine V_iadd dX12_flow_32 ?_
        obtain ⟨x3, qx3, hF⟩ := bnd_g hF
        refine B_istore_n qx3 dX12_flow_33 (by decide) ?_
        obtain ⟨x4, qx4, hF⟩ := bnd_g hF
        refine B_iinc (v := 1) qx4 dX12_flow_34 rfl (by decide) (by decide) ?_
        refine V_goto (tgt := 4) dX12_flow_37 (by decide) ?_
        exact V_lv' (ih _ _ hF) (v_all_c rfl (v_all_c rfl (v_all_c rfl (v_all_c rfl v_all_n))))
set_option maxRecDepth 100000 in
set_option maxHeartbeats 4000000 in
theorem s_X12_flow {l : Launch} {s0 : State} {D : va_G} {a0 : Array Value} {sh : List Sh} {f : Nat} {S : St} {p0 : Nat} {p1 : Int32} (hp0 : isX10 sh p0) {r : Int32} (G : GC l s0 D a0) (hF : F_X12_flow sh f S p0 p1 = some r) {d : Nat} (hd : 1 ≤ d) : Sp l s0 D d 0 0 mX12_flow (fun v h => v = some (.int r) ∧ h = wd s0.heap.size sh S) v_noX [.ref (s0.heap.size + p0), .int p1] (wd s0.heap.size sh S) := by
  obtain ⟨d, rfl⟩ : ∃ e, d = e + 1 := ⟨d - 1, by omega⟩
  refine Sp.of (by decide +kernel) rfl (Nat.le_of_ble_eq_true rfl) ?_
  unfold F_X12_flow at hF
  refine V_iconst (v := 0) dX12_flow_0 (by decide) ?_
  refine V_istore_n dX12_flow_1 (by decide) ?_
  refine V_iconst (v := 0) dX12_flow_2 (by decide) ?_
  refine V_istore_n dX12_flow_3 (by decide) ?_
  exact V_lv' (w_X12_flow_L4 hp0 G hd f _ _ hF) (v_all_c rfl (v_all_c rfl (v_all_c rfl (v_all_c rfl v_all_n))))
set_option maxRecDepth 100000 in
set_option maxHeartbeats 4000000 in
theorem s_X12_by {l : Launch} {s0 : State} {D : va_G} {a0 : Array Value} {sh : List Sh} {f : Nat} {S : St} {t : Nat} {p1 : Nat} {p2 : Int32} {p3 : Int32} (ht : isX12 sh t) (hp1 : isX10 sh p1) {r : Int32} (G : GC l s0 D a0) (hF : F_X12_by sh f S t p1 p2 p3 = some r) {d : Nat} (hd : 2 ≤ d) : Sp l s0 D d 0 0 mX12_by (fun v h => v = some (.int r) ∧ h = wd s0.heap.size sh S) v_noX [.ref (s0.heap.size + t), .ref (s0.heap.size + p1), .int p2, .int p3] (wd s0.heap.size sh S) := by
  obtain ⟨d, rfl⟩ : ∃ e, d = e + 1 := ⟨d - 1, by omega⟩
  refine Sp.of (by decide +kernel) rfl (Nat.le_of_ble_eq_true rfl) ?_
  unfold F_X12_by at hF
  refine V_aload_n dX12_by_0 rfl ?_
  refine V_iload_n dX12_by_1 rfl ?_
  obtain ⟨y1, hc, hF⟩ := bd hF
  refine V_callS dX12_by_2 kX12_554 (s_X12_flow hp1 G hc (by omega)) rfl (Nat.le_of_ble_eq_true rfl) (fun _ _ _ q => q.elim) ?_
  rintro _ _ ⟨rfl, rfl⟩
  refine V_istore dX12_by_5 (by decide) ?_
  refine V_aload_n dX12_by_7 rfl ?_
  obtain ⟨b2, hrb2, hF⟩ := bd hF
  obtain ⟨hb2, hF⟩ := gv_in hF
  replace hb2 := ckX9_ok hb2
  refine X_gR G dX12_by_8 fX12_312 ht.1 rfl hrb2 ?_
  refine X_gC G dX12_by_11 fX12_252 hb2.1 rfl ?_
  refine V_aload_n dX12_by_14 rfl ?_
  refine X_gC G dX12_by_15 fX12_57 ht.1 rfl ?_
  refine V_iload_n dX12_by_18 rfl ?_
  obtain ⟨hz, hF⟩ := gv_out hF
  refine X_iald dX12_by_19 ht.2.2.2.2.2.2.2.2.2.1 hz ?_
  obtain ⟨hz, hF⟩ := gv_out hF
  refine X_iald dX12_by_20 hb2.2.2.2.1 hz ?_
  obtain ⟨x3, qx3, hF⟩ := bnd_g hF
  refine B_istore qx3 dX12_by_21 (by decide) ?_
  refine V_iload dX12_by_23 rfl ?_
  refine V_iload dX12_by_25 rfl ?_
  refine V_imul dX12_by_27 ?_
  refine V_iload dX12_by_28 rfl ?_
  refine V_iload dX12_by_30 rfl ?_
  refine V_imul dX12_by_32 ?_
  refine V_isub dX12_by_33 ?_
  cases hF
  exact V_ireturn dX12_by_34 rfl rfl ⟨rfl, rfl⟩
set_option maxRecDepth 100000 in
set_option maxHeartbeats 4000000 in
theorem w_X12_cutOf_L2 {l : Launch} {s0 : State} {D : va_G} {a0 : Array Value} {sh : List Sh} {f : Nat} {t : Nat} {p1 : Int32} {p2 : Int32} (ht : isX12 sh t) {r : Int32 × St} {d : Nat} (G : GC l s0 D a0) (hd : 4 ≤ d + 1) : ∀ (n : Nat) (S : St) (l3 : Int32), F_X12_cutOf_L2 sh f t p1 p2 n S l3 = some r → V l s0 D (d + 1) 0 0 mX12_cutOf (fun v h => v = some (.int r.1) ∧ h = wd s0.heap.size sh r.2) v_noX 2 [(0, .ref (s0.heap.size + t)), (1, .int p1), (2, .int p2), (3, .int l3)] [] (wd s0.heap.size sh S) := by
  intro n
  induction n with
  | zero => intro S l3 hF; cases hF
  | succ n ih =>
    intro S l3 hF
    unfold F_X12_cutOf_L2 at hF
    refine V_iload_n dX12_cutOf_2 rfl ?_
    refine V_aload_n dX12_cutOf_3 rfl ?_
    refine X_gI G dX12_cutOf_4 fX12_331 ht.1 rfl ?_
    refine V_icmp_ge (tgt := 77) dX12_cutOf_7 (by decide) (fun c => ?_) (fun c => ?_)
    · replace hF := (if_pos c).symm.trans hF
      refine V_iconst (v := -1) dX12_cutOf_77 (by decide) ?_
      cases hF
      exact V_ireturn dX12_cutOf_78 rfl rfl ⟨rfl, rfl⟩
    · replace hF := (if_neg c).symm.trans hF
      refine V_aload_n dX12_cutOf_10 rfl ?_
      refine V_iload_n dX12_cutOf_11 rfl ?_
      obtain ⟨y1, hc, hF⟩ := bd hF
      refine V_callV G dX12_cutOf_12 kX12_445 (wd_at ht.1) ⟨by decide, rfl⟩ (s_X12_sideOf ht G hc (by omega)) rfl (Nat.le_of_ble_eq_true rfl) (fun _ _ _ q => q.elim) ?_
      rintro _ _ ⟨rfl, rfl⟩
      refine V_iload_n dX12_cutOf_15 rfl ?_
      refine V_icmp_eq (tgt := 22) dX12_cutOf_16 (by decide) (fun c => ?_) (fun c => ?_)
      · replace hF := (if_pos c).symm.trans hF
        refine V_aload_n dX12_cutOf_22 rfl ?_
        refine X_gC G dX12_cutOf_23 fX12_69 ht.1 rfl ?_
        refine V_aload_n dX12_cutOf_26 rfl ?_
        refine X_gC G dX12_cutOf_27 fX12_60 ht.1 rfl ?_
        refine V_iload_n dX12_cutOf_30 rfl ?_
        obtain ⟨hz, hF⟩ := gv_out hF
        refine X_iald dX12_cutOf_31 ht.2.2.2.2.2.2.2.2.2.2.1 hz ?_
        obtain ⟨hz, hF⟩ := gv_out hF
        refine X_iald dX12_cutOf_32 ht.2.2.2.2.2.2.2.2.2.2.2.2.2.1 hz ?_
        refine V_aload_n dX12_cutOf_33 rfl ?_
        refine X_gC G dX12_cutOf_34 fX12_69 ht.1 rfl ?_
        refine V_iconst (v := 0) dX12_cutOf_37 (by decide) ?_
        obtain ⟨hz, hF⟩ := gv_out hF
        refine X_iald dX12_cutOf_38 ht.2.2.2.2.2.2.2.2.2.2.2.2.2.1 hz ?_
        refine V_icmp_ne (tgt := 46) dX12_cutOf_39 (by decide) (fun c => ?_) (fun c => ?_)
        · replace hF := (if_neg c).symm.trans hF
          refine V_aload_n dX12_cutOf_46 rfl ?_
          refine X_gC G dX12_cutOf_47 fX12_63 ht.1 rfl ?_
          refine V_iload_n dX12_cutOf_50 rfl ?_
          obtain ⟨hz, hF⟩ := gv_out hF
          refine X_iald dX12_cutOf_51 ht.2.2.2.2.2.2.2.2.2.2.2.1 hz ?_
          obtain ⟨x2, qx2, hF⟩ := bnd_g hF
          refine B_istore qx2 dX12_cutOf_52 (by decide) ?_
          refine V_aload_n dX12_cutOf_54 rfl ?_
          refine X_gC G dX12_cutOf_55 fX12_57 ht.1 rfl ?_
          refine V_iload dX12_cutOf_58 rfl ?_
          obtain ⟨hz, hF⟩ := gv_out hF
          refine X_iald dX12_cutOf_60 ht.2.2.2.2.2.2.2.2.2.1 hz ?_
          refine V_iload_n dX12_cutOf_61 rfl ?_
          refine V_icmp_ne (tgt := 69) dX12_cutOf_62 (by decide) (fun c => ?_) (fun c => ?_)
          · replace hF := (if_neg c).symm.trans hF
            refine V_iconst (v := -1) dX12_cutOf_69 (by decide) ?_
            cases hF
            exact V_ireturn dX12_cutOf_70 rfl rfl ⟨rfl, rfl⟩
          · replace hF := (if_pos c).symm.trans hF
            refine V_iload_n dX12_cutOf_65 rfl ?_
            refine V_goto (tgt := 70) dX12_cutOf_66 (by decide) ?_
            cases hF
            exact V_ireturn dX12_cutOf_70 rfl rfl ⟨rfl, rfl⟩
        · replace hF := (if_pos c).symm.trans hF
          refine V_iload_n dX12_cutOf_42 rfl ?_
          refine V_goto (tgt := 52) dX12_cutOf_43 (by decide) ?_
          refine V_istore dX12_cutOf_52 (by decide) ?_
          refine V_aload_n dX12_cutOf_54 rfl ?_
          refine X_gC G dX12_cutOf_55 fX12_57 ht.1 rfl ?_
          refine V_iload dX12_cutOf_58 rfl ?_
          obtain ⟨hz, hF⟩ := gv_out hF
          refine X_iald dX12_cutOf_60 ht.2.2.2.2.2.2.2.2.2.1 hz ?_
          refine V_iload_n dX12_cutOf_61 rfl ?_
          refine V_icmp_ne (tgt := 69) dX12_cutOf_62 (by decide) (fun c => ?_) (fun c => ?_)
          · replace hF := (if_neg c).symm.trans hF
            refine V_iconst (v := -1) dX12_cutOf_69 (by decide) ?_
            cases hF
            exact V_ireturn dX12_cutOf_70 rfl rfl ⟨rfl, rfl⟩
          · replace hF := (if_pos c).symm.trans hF
            refine V_iload_n dX12_cutOf_65 rfl ?_
            refine V_goto (tgt := 70) dX12_cutOf_66 (by decide) ?_
            cases hF
            exact V_ireturn dX12_cutOf_70 rfl rfl ⟨rfl, rfl⟩
      · replace hF := (if_neg c).symm.trans hF
        refine V_goto (tgt := 71) dX12_cutOf_19 (by decide) ?_
        obtain ⟨x3, qx3, hF⟩ := bnd_g hF
        refine B_iinc (v := 1) qx3 dX12_cutOf_71 rfl (by decide) (by decide) ?_
        refine V_goto (tgt := 2) dX12_cutOf_74 (by decide) ?_
        exact V_lv' (ih _ _ hF) (v_all_c rfl (v_all_c rfl (v_all_c rfl (v_all_c rfl v_all_n))))
set_option maxRecDepth 100000 in
set_option maxHeartbeats 4000000 in
theorem s_X12_cutOf {l : Launch} {s0 : State} {D : va_G} {a0 : Array Value} {sh : List Sh} {f : Nat} {S : St} {t : Nat} {p1 : Int32} {p2 : Int32} (ht : isX12 sh t) {r : Int32 × St} (G : GC l s0 D a0) (hF : F_X12_cutOf sh f S t p1 p2 = some r) {d : Nat} (hd : 4 ≤ d) : Sp l s0 D d 0 0 mX12_cutOf (fun v h => v = some (.int r.1) ∧ h = wd s0.heap.size sh r.2) v_noX [.ref (s0.heap.size + t), .int p1, .int p2] (wd s0.heap.size sh S) := by
  obtain ⟨d, rfl⟩ : ∃ e, d = e + 1 := ⟨d - 1, by omega⟩
  refine Sp.of (by decide +kernel) rfl (Nat.le_of_ble_eq_true rfl) ?_
  unfold F_X12_cutOf at hF
  refine V_iconst (v := 0) dX12_cutOf_0 (by decide) ?_
  refine V_istore_n dX12_cutOf_1 (by decide) ?_
  exact V_lv' (w_X12_cutOf_L2 ht G hd f _ _ hF) (v_all_c rfl (v_all_c rfl (v_all_c rfl (v_all_c rfl v_all_n))))
set_option maxRecDepth 100000 in
set_option maxHeartbeats 4000000 in
theorem s_X12_isTree {l : Launch} {s0 : State} {D : va_G} {a0 : Array Value} {sh : List Sh} {f : Nat} {S : St} {t : Nat} {p1 : Nat} {p2 : Int32} (ht : isX12 sh t) (hp1 : isX10 sh p1) {r : Int32 × St} (G : GC l s0 D a0) (hF : F_X12_isTree sh f S t p1 p2 = some r) {d : Nat} (hd : 4 ≤ d) : Sp l s0 D d 0 0 mX12_isTree (fun v h => v = some (.int r.1) ∧ h = wd s0.heap.size sh r.2) v_noX [.ref (s0.heap.size + t), .ref (s0.heap.size + p1), .int p2] (wd s0.heap.size sh S) := by
  obtain ⟨d, rfl⟩ : ∃ e, d = e + 1 := ⟨d - 1, by omega⟩
  refine Sp.of (by decide +kernel) rfl (Nat.le_of_ble_eq_true rfl) ?_
  unfold F_X12_isTree at hF
  refine V_aload_n dX12_isTree_0 rfl ?_
  refine V_aload_n dX12_isTree_1 rfl ?_
  refine X_gI G dX12_isTree_2 fX12_339 hp1.1 rfl ?_
  refine X_pI G dX12_isTree_5 gX12_439 ht.1 rfl rfl rfl ?_
  obtain ⟨S1, qS1, hF⟩ := bnd_g hF
  refine V_eqS qS1 ?_
  refine V_aload_n dX12_isTree_8 rfl ?_
  refine V_aload_n dX12_isTree_9 rfl ?_
  refine V_iload_n dX12_isTree_10 rfl ?_
  obtain ⟨y2, hc, hF⟩ := bd hF
  refine V_callV G dX12_isTree_11 kX12_454 (wd_at ht.1) ⟨by decide, rfl⟩ (s_X12_shows ht hp1 G hc (by omega)) rfl (Nat.le_of_ble_eq_true rfl) (fun _ _ _ q => q.elim) ?_
  rintro _ _ ⟨rfl, rfl⟩
  refine V_aload_n dX12_isTree_14 rfl ?_
  obtain ⟨y3, hc, hF⟩ := bd hF
  refine V_callV G dX12_isTree_15 kX12_464 (wd_at ht.1) ⟨by decide, rfl⟩ (s_X12_inners ht G hc (by omega)) rfl (Nat.le_of_ble_eq_true rfl) (fun _ _ _ q => q.elim) ?_
  rintro _ _ ⟨rfl, rfl⟩
  refine V_aload_n dX12_isTree_18 rfl ?_
  refine X_gI G dX12_isTree_19 fX12_339 hp1.1 rfl ?_
  refine V_iconst (v := 1) dX12_isTree_22 (by decide) ?_
  refine V_isub dX12_isTree_23 ?_
  refine V_icmp_ne (tgt := 31) dX12_isTree_24 (by decide) (fun c => ?_) (fun c => ?_)
  · replace hF := (if_neg c).symm.trans hF
    refine V_iconst (v := 0) dX12_isTree_31 (by decide) ?_
    cases hF
    exact V_ireturn dX12_isTree_32 rfl (by decide) ⟨rfl, rfl⟩
  · replace hF := (if_pos c).symm.trans hF
    refine V_iconst (v := 1) dX12_isTree_27 (by decide) ?_
    refine V_goto (tgt := 32) dX12_isTree_28 (by decide) ?_
    cases hF
    exact V_ireturn dX12_isTree_32 rfl (by decide) ⟨rfl, rfl⟩
set_option maxRecDepth 100000 in
set_option maxHeartbeats 4000000 in
theorem w_X12_hasPole_L85 {l : Launch} {s0 : State} {D : va_G} {a0 : Array Value} {sh : List Sh} {f : Nat} {t : Nat} {p1 : Nat} {p2 : Int32} {p3 : Int32} (ht : isX12 sh t) (hp1 : isX10 sh p1) {r : Int32 × St} {d : Nat} (G : GC l s0 D a0) (hd : 5 ≤ d + 1) {k59 : St → Int32 → Int32 → Int32 → Option (Int32 × St)} (hk59 : ∀ (S : St) (l4 : Int32) (l5 : Int32) (l6 : Int32), k59 S l4 l5 l6 = some r → V l s0 D (d + 1) 0 0 mX12_hasPole (fun v h => v = some (.int r.1) ∧ h = wd s0.heap.size sh r.2) v_noX 59 [(0, .ref (s0.heap.size + t)), (1, .ref (s0.heap.size + p1)), (2, .int p2), (3, .int p3), (4, .int l4), (5, .int l5), (6, .int l6)] [] (wd s0.heap.size sh S)) : ∀ (S : St) (l4 : Int32) (l5 : Int32) (l6 : Int32) (v0 : Int32), F_X12_hasPole_L85 sh f t p1 p2 p3 k59 S l4 l5 l6 v0 = some r → V l s0 D (d + 1) 0 0 mX12_hasPole (fun v h => v = some (.int r.1) ∧ h = wd s0.heap.size sh r.2) v_noX 85 [(0, .ref (s0.heap.size + t)), (1, .ref (s0.heap.size + p1)), (2, .int p2), (3, .int p3), (4, .int l4), (5, .int l5), (6, .int l6)] [.int v0] (wd s0.heap.size sh S) := by
  intro S l4 l5 l6 v0 hF
  unfold F_X12_hasPole_L85 at hF
  refine V_istore dX12_hasPole_85 (by decide) ?_
  refine V_iload dX12_hasPole_87 rfl ?_
  refine V_iconst (v := -1) dX12_hasPole_89 (by decide) ?_
  refine V_icmp_eq (tgt := 116) dX12_hasPole_90 (by decide) (fun c => ?_) (fun c => ?_)
  · replace hF := (if_pos c).symm.trans hF
    obtain ⟨x1, qx1, hF⟩ := bnd_g hF
    refine B_iinc (v := 1) qx1 dX12_hasPole_116 rfl (by decide) (by decide) ?_
    refine V_goto (tgt := 59) dX12_hasPole_119 (by decide) ?_
    exact V_lv' (hk59 _ _ _ _ hF) (v_all_c rfl (v_all_c rfl (v_all_c rfl (v_all_c rfl (v_all_c rfl (v_all_c rfl (v_all_c rfl v_all_n)))))))
  · replace hF := (if_neg c).symm.trans hF
    refine V_aload_n dX12_hasPole_93 rfl ?_
    refine V_aload_n dX12_hasPole_94 rfl ?_
    refine V_iload dX12_hasPole_95 rfl ?_
    refine V_iload dX12_hasPole_97 rfl ?_
    obtain ⟨y2, hc, hF⟩ := bd hF
    refine V_callV G dX12_hasPole_99 kX12_563 (wd_at ht.1) ⟨by decide, rfl⟩ (s_X12_by ht hp1 G hc (by omega)) rfl (Nat.le_of_ble_eq_true rfl) (fun _ _ _ q => q.elim) ?_
    rintro _ _ ⟨rfl, rfl⟩
    refine V_if_eq (tgt := 108) dX12_hasPole_102 (by decide) (fun c => ?_) (fun c => ?_)
    · replace hF := (if_pos c).symm.trans hF
      refine V_aload_n dX12_hasPole_108 rfl ?_
      refine V_iload dX12_hasPole_109 rfl ?_
      refine X_pI G dX12_hasPole_111 gX12_566 ht.1 rfl rfl rfl ?_
      obtain ⟨S3, qS3, hF⟩ := bnd_g hF
      refine V_eqS qS3 ?_
      refine V_iconst (v := 1) dX12_hasPole_114 (by decide) ?_
      cases hF
      exact V_ireturn dX12_hasPole_115 rfl (by decide) ⟨rfl, rfl⟩
    · replace hF := (if_neg c).symm.trans hF
      refine V_goto (tgt := 116) dX12_hasPole_105 (by decide) ?_
      obtain ⟨x4, qx4, hF⟩ := bnd_g hF
      refine B_iinc (v := 1) qx4 dX12_hasPole_116 rfl (by decide) (by decide) ?_
      refine V_goto (tgt := 59) dX12_hasPole_119 (by decide) ?_
      exact V_lv' (hk59 _ _ _ _ hF) (v_all_c rfl (v_all_c rfl (v_all_c rfl (v_all_c rfl (v_all_c rfl (v_all_c rfl (v_all_c rfl v_all_n)))))))
set_option maxRecDepth 100000 in
set_option maxHeartbeats 4000000 in
theorem w_X12_hasPole_L59 {l : Launch} {s0 : State} {D : va_G} {a0 : Array Value} {sh : List Sh} {f : Nat} {t : Nat} {p1 : Nat} {p2 : Int32} {p3 : Int32} (ht : isX12 sh t) (hp1 : isX10 sh p1) {r : Int32 × St} {d : Nat} (G : GC l s0 D a0) (hd : 5 ≤ d + 1) {k3 : St → Int32 → Option (Int32 × St)} (hk3 : ∀ (S : St) (l4 : Int32), k3 S l4 = some r → V l s0 D (d + 1) 0 0 mX12_hasPole (fun v h => v = some (.int r.1) ∧ h = wd s0.heap.size sh r.2) v_noX 3 [(0, .ref (s0.heap.size + t)), (1, .ref (s0.heap.size + p1)), (2, .int p2), (3, .int p3), (4, .int l4)] [] (wd s0.heap.size sh S)) : ∀ (n : Nat) (S : St) (l4 : Int32) (l5 : Int32) (l6 : Int32), F_X12_hasPole_L59 sh f t p1 p2 p3 k3 n S l4 l5 l6 = some r → V l s0 D (d + 1) 0 0 mX12_hasPole (fun v h => v = some (.int r.1) ∧ h = wd s0.heap.size sh r.2) v_noX 59 [(0, .ref (s0.heap.size + t)), (1, .ref (s0.heap.size + p1)), (2, .int p2), (3, .int p3), (4, .int l4), (5, .int l5), (6, .int l6)] [] (wd s0.heap.size sh S) := by
  intro n
  induction n with
  | zero => intro S l4 l5 l6 hF; cases hF
  | succ n ih =>
    intro S l4 l5 l6 hF
    unfold F_X12_hasPole_L59 at hF
    refine V_iload dX12_hasPole_59 rfl ?_
    refine V_aload_n dX12_hasPole_61 rfl ?_
    refine X_gI G dX12_hasPole_62 fX12_331 ht.1 rfl ?_
    refine V_icmp_ge (tgt := 122) dX12_hasPole_65 (by decide) (fun c => ?_) (fun c => ?_)
    · replace hF := (if_pos c).symm.trans hF
      obtain ⟨x1, qx1, hF⟩ := bnd_g hF
      refine B_iinc (v := 1) qx1 dX12_hasPole_122 rfl (by decide) (by decide) ?_
      refine V_goto (tgt := 3) dX12_hasPole_125 (by decide) ?_
      exact V_lv' (hk3 _ _ hF) (v_all_c rfl (v_all_c rfl (v_all_c rfl (v_all_c rfl (v_all_c rfl v_all_n)))))
    · replace hF := (if_neg c).symm.trans hF
      refine V_iload dX12_hasPole_68 rfl ?_
      refine V_iload dX12_hasPole_70 rfl ?_
      refine V_icmp_ne (tgt := 79) dX12_hasPole_72 (by decide) (fun c => ?_) (fun c => ?_)
      · replace hF := (if_neg c).symm.trans hF
        refine V_aload_n dX12_hasPole_79 rfl ?_
        refine V_iload dX12_hasPole_80 rfl ?_
        obtain ⟨y2, hc, hF⟩ := bd hF
        refine V_callV G dX12_hasPole_82 kX12_445 (wd_at ht.1) ⟨by decide, rfl⟩ (s_X12_sideOf ht G hc (by omega)) rfl (Nat.le_of_ble_eq_true rfl) (fun _ _ _ q => q.elim) ?_
        rintro _ _ ⟨rfl, rfl⟩
        exact V_lv' (w_X12_hasPole_L85 ht hp1 G hd ih _ _ _ _ _ hF) (v_all_c rfl (v_all_c rfl (v_all_c rfl (v_all_c rfl (v_all_c rfl (v_all_c rfl (v_all_c rfl v_all_n)))))))
      · replace hF := (if_pos c).symm.trans hF
        refine V_iconst (v := -1) dX12_hasPole_75 (by decide) ?_
        refine V_goto (tgt := 85) dX12_hasPole_76 (by decide) ?_
        exact V_lv' (w_X12_hasPole_L85 ht hp1 G hd ih _ _ _ _ _ hF) (v_all_c rfl (v_all_c rfl (v_all_c rfl (v_all_c rfl (v_all_c rfl (v_all_c rfl (v_all_c rfl v_all_n)))))))
set_option maxRecDepth 100000 in
set_option maxHeartbeats 4000000 in
theorem w_X12_hasPole_L3 {l : Launch} {s0 : State} {D : va_G} {a0 : Array Value} {sh : List Sh} {f : Nat} {t : Nat} {p1 : Nat} {p2 : Int32} {p3 : Int32} (ht : isX12 sh t) (hp1 : isX10 sh p1) {r : Int32 × St} {d : Nat} (G : GC l s0 D a0) (hd : 5 ≤ d + 1) : ∀ (n : Nat) (S : St) (l4 : Int32), F_X12_hasPole_L3 sh f t p1 p2 p3 n S l4 = some r → V l s0 D (d + 1) 0 0 mX12_hasPole (fun v h => v = some (.int r.1) ∧ h = wd s0.heap.size sh r.2) v_noX 3 [(0, .ref (s0.heap.size + t)), (1, .ref (s0.heap.size + p1)), (2, .int p2), (3, .int p3), (4, .int l4)] [] (wd s0.heap.size sh S) := by
  intro n
  induction n with
  | zero => intro S l4 hF; cases hF
  | succ n ih =>
    intro S l4 hF
    unfold F_X12_hasPole_L3 at hF
    refine V_iload dX12_hasPole_3 rfl ?_
    refine V_aload_n dX12_hasPole_5 rfl ?_
    refine X_gI G dX12_hasPole_6 fX12_404 hp1.1 rfl ?_
    refine V_icmp_ge (tgt := 128) dX12_hasPole_9 (by decide) (fun c => ?_) (fun c => ?_)
    · replace hF := (if_pos c).symm.trans hF
      refine V_iconst (v := 0) dX12_hasPole_128 (by decide) ?_
      cases hF
      exact V_ireturn dX12_hasPole_129 rfl (by decide) ⟨rfl, rfl⟩
    · replace hF := (if_neg c).symm.trans hF
      refine V_aload_n dX12_hasPole_12 rfl ?_
      refine V_aload_n dX12_hasPole_13 rfl ?_
      refine V_iload dX12_hasPole_14 rfl ?_
      obtain ⟨y1, hc, hF⟩ := bd hF
      refine V_callV G dX12_hasPole_16 kX12_557 (wd_at ht.1) ⟨by decide, rfl⟩ (s_X12_isTree ht hp1 G hc (by omega)) rfl (Nat.le_of_ble_eq_true rfl) (fun _ _ _ q => q.elim) ?_
      rintro _ _ ⟨rfl, rfl⟩
      refine V_if_ne (tgt := 25) dX12_hasPole_19 (by decide) (fun c => ?_) (fun c => ?_)
      · replace hF := (if_neg c).symm.trans hF
        refine V_iload_n dX12_hasPole_25 rfl ?_
        refine V_iconst (v := -1) dX12_hasPole_26 (by decide) ?_
        refine V_icmp_ne (tgt := 34) dX12_hasPole_27 (by decide) (fun c => ?_) (fun c => ?_)
        · replace hF := (if_neg c).symm.trans hF
          refine V_aload_n dX12_hasPole_34 rfl ?_
          refine V_iload_n dX12_hasPole_35 rfl ?_
          refine V_iload_n dX12_hasPole_36 rfl ?_
          obtain ⟨y2, hc, hF⟩ := bd hF
          refine V_callV G dX12_hasPole_37 kX12_560 (wd_at ht.1) ⟨by decide, rfl⟩ (s_X12_cutOf ht G hc (by omega)) rfl (Nat.le_of_ble_eq_true rfl) (fun _ _ _ q => q.elim) ?_
          rintro _ _ ⟨rfl, rfl⟩
          obtain ⟨x3, qx3, hF⟩ := bnd_g hF
          refine B_istore qx3 dX12_hasPole_40 (by decide) ?_
          refine V_iload_n dX12_hasPole_42 rfl ?_
          refine V_iconst (v := -1) dX12_hasPole_43 (by decide) ?_
          refine V_icmp_eq (tgt := 56) dX12_hasPole_44 (by decide) (fun c => ?_) (fun c => ?_)
          · replace hF := (if_pos c).symm.trans hF
            refine V_iconst (v := 0) dX12_hasPole_56 (by decide) ?_
            refine V_istore dX12_hasPole_57 (by decide) ?_
            exact V_lv' (w_X12_hasPole_L59 ht hp1 G hd ih f _ _ _ _ hF) (v_all_c rfl (v_all_c rfl (v_all_c rfl (v_all_c rfl (v_all_c rfl (v_all_c rfl (v_all_c rfl v_all_n)))))))
          · replace hF := (if_neg c).symm.trans hF
            refine V_iload dX12_hasPole_47 rfl ?_
            refine V_iconst (v := -1) dX12_hasPole_49 (by decide) ?_
            refine V_icmp_ne (tgt := 56) dX12_hasPole_50 (by decide) (fun c => ?_) (fun c => ?_)
            · replace hF := (if_neg c).symm.trans hF
              refine V_iconst (v := 0) dX12_hasPole_56 (by decide) ?_
              refine V_istore dX12_hasPole_57 (by decide) ?_
              exact V_lv' (w_X12_hasPole_L59 ht hp1 G hd ih f _ _ _ _ hF) (v_all_c rfl (v_all_c rfl (v_all_c rfl (v_all_c rfl (v_all_c rfl (v_all_c rfl (v_all_c rfl v_all_n)))))))
            · replace hF := (if_pos c).symm.trans hF
              refine V_goto (tgt := 122) dX12_hasPole_53 (by decide) ?_
              obtain ⟨x4, qx4, hF⟩ := bnd_g hF
              refine B_iinc (v := 1) qx4 dX12_hasPole_122 rfl (by decide) (by decide) ?_
              refine V_goto (tgt := 3) dX12_hasPole_125 (by decide) ?_
              exact V_lv' (ih _ _ hF) (v_all_c rfl (v_all_c rfl (v_all_c rfl (v_all_c rfl (v_all_c rfl v_all_n)))))
        · replace hF := (if_pos c).symm.trans hF
          refine V_iconst (v := -1) dX12_hasPole_30 (by decide) ?_
          refine V_goto (tgt := 40) dX12_hasPole_31 (by decide) ?_
          refine V_istore dX12_hasPole_40 (by decide) ?_
          refine V_iload_n dX12_hasPole_42 rfl ?_
          refine V_iconst (v := -1) dX12_hasPole_43 (by decide) ?_
          refine V_icmp_eq (tgt := 56) dX12_hasPole_44 (by decide) (fun c => ?_) (fun c => ?_)
          · replace hF := (if_pos c).symm.trans hF
            refine V_iconst (v := 0) dX12_hasPole_56 (by decide) ?_
            refine V_istore dX12_hasPole_57 (by decide) ?_
            exact V_lv' (w_X12_hasPole_L59 ht hp1 G hd ih f _ _ _ _ hF) (v_all_c rfl (v_all_c rfl (v_all_c rfl (v_all_c rfl (v_all_c rfl (v_all_c rfl (v_all_c rfl v_all_n)))))))
          · replace hF := (if_neg c).symm.trans hF
            refine V_iload dX12_hasPole_47 rfl ?_
            refine V_iconst (v := -1) dX12_hasPole_49 (by decide) ?_
            refine V_icmp_ne (tgt := 56) dX12_hasPole_50 (by decide) (fun c => ?_) (fun c => ?_)
            · replace hF := (if_neg c).symm.trans hF
              refine V_iconst (v := 0) dX12_hasPole_56 (by decide) ?_
              refine V_istore dX12_hasPole_57 (by decide) ?_
              exact V_lv' (w_X12_hasPole_L59 ht hp1 G hd ih f _ _ _ _ hF) (v_all_c rfl (v_all_c rfl (v_all_c rfl (v_all_c rfl (v_all_c rfl (v_all_c rfl (v_all_c rfl v_all_n)))))))
            · replace hF := (if_pos c).symm.trans hF
              refine V_goto (tgt := 122) dX12_hasPole_53 (by decide) ?_
              obtain ⟨x5, qx5, hF⟩ := bnd_g hF
              refine B_iinc (v := 1) qx5 dX12_hasPole_122 rfl (by decide) (by decide) ?_
              refine V_goto (tgt := 3) dX12_hasPole_125 (by decide) ?_
              exact V_lv' (ih _ _ hF) (v_all_c rfl (v_all_c rfl (v_all_c rfl (v_all_c rfl (v_all_c rfl v_all_n)))))
      · replace hF := (if_pos c).symm.trans hF
        refine V_goto (tgt := 122) dX12_hasPole_22 (by decide) ?_
        obtain ⟨x6, qx6, hF⟩ := bnd_g hF
        refine B_iinc (v := 1) qx6 dX12_hasPole_122 rfl (by decide) (by decide) ?_
        refine V_goto (tgt := 3) dX12_hasPole_125 (by decide) ?_
        exact V_lv' (ih _ _ hF) (v_all_c rfl (v_all_c rfl (v_all_c rfl (v_all_c rfl (v_all_c rfl v_all_n)))))
set_option maxRecDepth 100000 in
set_option maxHeartbeats 4000000 in
theorem s_X12_hasPole {l : Launch} {s0 : State} {D : va_G} {a0 : Array Value} {sh : List Sh} {f : Nat} {S : St} {t : Nat} {p1 : Nat} {p2 : Int32} {p3 : Int32} (ht : isX12 sh t) (hp1 : isX10 sh p1) {r : Int32 × St} (G : GC l s0 D a0) (hF : F_X12_hasPole sh f S t p1 p2 p3 = some r) {d : Nat} (hd : 5 ≤ d) : Sp l s0 D d 0 0 mX12_hasPole (fun v h => v = some (.int r.1) ∧ h = wd s0.heap.size sh r.2) v_noX [.ref (s0.heap.size + t), .ref (s0.heap.size + p1), .int p2, .int p3] (wd s0.heap.size sh S) := by
  obtain ⟨d, rfl⟩ : ∃ e, d = e + 1 := ⟨d - 1, by omega⟩
  refine Sp.of (by decide +kernel) rfl (Nat.le_of_ble_eq_true rfl) ?_
  unfold F_X12_hasPole at hF
  refine V_iconst (v := 0) dX12_hasPole_0 (by decide) ?_
  refine V_istore dX12_hasPole_1 (by decide) ?_
  exact V_lv' (w_X12_hasPole_L3 ht hp1 G hd f _ _ hF) (v_all_c rfl (v_all_c rfl (v_all_c rfl (v_all_c rfl (v_all_c rfl v_all_n)))))
set_option maxRecDepth 100000 in
set_option maxHeartbeats 4000000 in
theorem w_X12_restOf_L198 {l : Launch} {s0 : State} {D : va_G} {a0 : Array Value} {sh : List Sh} {f : Nat} {t : Nat} {p1 : Nat} {p2 : Int32} {p3 : Int32} {p4 : Int32} (ht : isX12 sh t) (hp1 : isX10 sh p1) {r : Int32 × St} {d : Nat} (G : GC l s0 D a0) (hd : 5 ≤ d + 1) {k172 : St → Int64 → Int32 → Int32 → Int64 → Int64 → Int32 → Option (Int32 × St)} (hk172 : ∀ (S : St) (l5 : Int64) (l7 : Int32) (l8 : Int32) (l9 : Int64) (l11 : Int64) (l13 : Int32), k172 S l5 l7 l8 l9 l11 l13 = some r → V l s0 D (d + 1) 0 0 mX12_restOf (fun v h => v = some (.int r.1) ∧ h = wd s0.heap.size sh r.2) v_noX 172 [(0, .ref (s0.heap.size + t)), (1, .ref (s0.heap.size + p1)), (2, .int p2), (3, .int p3), (4, .int p4), (5, .long l5), (7, .int l7), (8, .int l8), (9, .long l9), (11, .long l11), (13, .int l13)] [] (wd s0.heap.size sh S)) : ∀ (S : St) (l5 : Int64) (l7 : Int32) (l8 : Int32) (l9 : Int64) (l11 : Int64) (l13 : Int32) (v0 : Int32), F_X12_restOf_L198 sh f t p1 p2 p3 p4 k172 S l5 l7 l8 l9 l11 l13 v0 = some r → V l s0 D (d + 1) 0 0 mX12_restOf (fun v h => v = some (.int r.1) ∧ h = wd s0.heap.size sh r.2) v_noX 198 [(0, .ref (s0.heap.size + t)), (1, .ref (s0.heap.size + p1)), (2, .int p2), (3, .int p3), (4, .int p4), (5, .long l5), (7, .int l7), (8, .int l8), (9, .long l9), (11, .long l11), (13, .int l13)] [.int v0] (wd s0.heap.size sh S) := by
  intro S l5 l7 l8 l9 l11 l13 v0 hF
  unfold F_X12_restOf_L198 at hF
  refine V_istore dX12_restOf_198 (by decide) ?_
  refine V_iload dX12_restOf_200 rfl ?_
  refine V_iconst (v := -1) dX12_restOf_202 (by decide) ?_
  refine V_icmp_eq (tgt := 229) dX12_restOf_203 (by decide) (fun c => ?_) (fun c => ?_)
  · replace hF := (if_pos c).symm.trans hF
    obtain ⟨x1, qx1, hF⟩ := bnd_g hF
    refine B_iinc (v := 1) qx1 dX12_restOf_229 rfl (by decide) (by decide) ?_
    refine V_goto (tgt := 172) dX12_restOf_232 (by decide) ?_
    exact V_lv' (hk172 _ _ _ _ _ _ _ hF) (v_all_c rfl (v_all_c rfl (v_all_c rfl (v_all_c rfl (v_all_c rfl (v_all_c rfl (v_all_c rfl (v_all_c rfl (v_all_c rfl (v_all_c rfl (v_all_c rfl v_all_n)))))))))))
  · replace hF := (if_neg c).symm.trans hF
    refine V_lload dX12_restOf_206 rfl ?_
    refine V_aload_n dX12_restOf_208 rfl ?_
    refine V_aload_n dX12_restOf_209 rfl ?_
    refine V_iload dX12_restOf_210 rfl ?_
    refine V_iload dX12_restOf_212 rfl ?_
    obtain ⟨y2, hc, hF⟩ := bd hF
    refine V_callV G dX12_restOf_214 kX12_563 (wd_at ht.1) ⟨by decide, rfl⟩ (s_X12_by ht hp1 G hc (by omega)) rfl (Nat.le_of_ble_eq_true rfl) (fun _ _ _ q => q.elim) ?_
    rintro _ _ ⟨rfl, rfl⟩
    refine V_i2l dX12_restOf_217 ?_
    refine V_iload_n dX12_restOf_218 rfl ?_
    obtain ⟨y3, hc, hF⟩ := bd hF
    refine V_callS dX12_restOf_219 kX12_569 (s_X12_mod G hc (by omega)) rfl (Nat.le_of_ble_eq_true rfl) (fun _ _ _ q => q.elim) ?_
    rintro _ _ ⟨rfl, rfl⟩
    refine V_i2l dX12_restOf_222 ?_
    refine V_lmul dX12_restOf_223 ?_
    refine V_iload_n dX12_restOf_224 rfl ?_
    refine V_i2l dX12_restOf_225 ?_
    obtain ⟨hz, hF⟩ := gv_out hF
    refine V_lrem dX12_restOf_226 hz ?_
    obtain ⟨x4, qx4, hF⟩ := bnd_g hF
    refine B_lstore qx4 dX12_restOf_227 (by decide) ?_
    obtain ⟨x5, qx5, hF⟩ := bnd_g hF
    refine B_iinc (v := 1) qx5 dX12_restOf_229 rfl (by decide) (by decide) ?_
    refine V_goto (tgt := 172) dX12_restOf_232 (by decide) ?_
    exact V_lv' (hk172 _ _ _ _ _ _ _ hF) (v_all_c rfl (v_all_c rfl (v_all_c rfl (v_all_c rfl (v_all_c rfl (v_all_c rfl (v_all_c rfl (v_all_c rfl (v_all_c rfl (v_all_c rfl (v_all_c rfl v_all_n)))))))))))
set_option maxRecDepth 100000 in
set_option maxHeartbeats 4000000 in
theorem w_X12_restOf_L172 {l : Launch} {s0 : State} {D : va_G} {a0 : Array Value} {sh : List Sh} {f : Nat} {t : Nat} {p1 : Nat} {p2 : Int32} {p3 : Int32} {p4 : Int32} (ht : isX12 sh t) (hp1 : isX10 sh p1) {r : Int32 × St} {d : Nat} (G : GC l s0 D a0) (hd : 5 ≤ d + 1) {k6 : St → Int64 → Int32 → Option (Int32 × St)} (hk6 : ∀ (S : St) (l5 : Int64) (l7 : Int32), k6 S l5 l7 = some r → V l s0 D (d + 1) 0 0 mX12_restOf (fun v h => v = some (.int r.1) ∧ h = wd s0.heap.size sh r.2) v_noX 6 [(0, .ref (s0.heap.size + t)), (1, .ref (s0.heap.size + p1)), (2, .int p2), (3, .int p3), (4, .int p4), (5, .long l5), (7, .int l7)] [] (wd s0.heap.size sh S)) : ∀ (n : Nat) (S : St) (l5 : Int64) (l7 : Int32) (l8 : Int32) (l9 : Int64) (l11 : Int64) (l13 : Int32), F_X12_restOf_L172 sh f t p1 p2 p3 p4 k6 n S l5 l7 l8 l9 l11 l13 = some r → V l s0 D (d + 1) 0 0 mX12_restOf (fun v h => v = some (.int r.1) ∧ h = wd s0.heap.size sh r.2) v_noX 172 [(0, .ref (s0.heap.size + t)), (1, .ref (s0.heap.size + p1)), (2, .int p2), (3, .int p3), (4, .int p4), (5, .long l5), (7, .int l7), (8, .int l8), (9, .long l9), (11, .long l11), (13, .int l13)] [] (wd s0.heap.size sh S) := by
  intro n
  induction n with
  | zero => intro S l5 l7 l8 l9 l11 l13 hF; cases hF
  | succ n ih =>
    intro S l5 l7 l8 l9 l11 l13 hF
    unfold F_X12_restOf_L172 at hF
    refine V_iload dX12_restOf_172 rfl ?_
    refine V_aload_n dX12_restOf_174 rfl ?_
    refine X_gI G dX12_restOf_175 fX12_331 ht.1 rfl ?_
    refine V_icmp_ge (tgt := 235) dX12_restOf_178 (by decide) (fun c => ?_) (fun c => ?_)
    · replace hF := (if_pos c).symm.trans hF
      refine V_lload dX12_restOf_235 rfl ?_
      refine V_lconst (v := 0) dX12_restOf_237 (by decide) ?_
      refine V_lcmp dX12_restOf_238 ?_
      refine V_if_ne (tgt := 244) dX12_restOf_239 (by decide) (fun c => ?_) (fun c => ?_)
      · replace hF := (if_neg c).symm.trans hF
        refine V_lload dX12_restOf_244 rfl ?_
        refine V_lload dX12_restOf_246 rfl ?_
        refine V_lload dX12_restOf_248 rfl ?_
        refine V_l2i dX12_restOf_250 ?_
        refine V_iload_n dX12_restOf_251 rfl ?_
        obtain ⟨y1, hc, hF⟩ := bd hF
        refine V_callS dX12_restOf_252 kX12_573 (s_X12_inverse G hc (by omega)) rfl (Nat.le_of_ble_eq_true rfl) (fun _ _ _ q => q.elim) ?_
        rintro _ _ ⟨rfl, rfl⟩
        refine V_i2l dX12_restOf_255 ?_
        refine V_lmul dX12_restOf_256 ?_
        refine V_ladd dX12_restOf_257 ?_
        refine V_iload_n dX12_restOf_258 rfl ?_
        refine V_i2l dX12_restOf_259 ?_
        obtain ⟨hz, hF⟩ := gv_out hF
        refine V_lrem dX12_restOf_260 hz ?_
        obtain ⟨x2, qx2, hF⟩ := bnd_g hF
        refine B_lstore qx2 dX12_restOf_261 (by decide) ?_
        obtain ⟨x3, qx3, hF⟩ := bnd_g hF
        refine B_iinc (v := 1) qx3 dX12_restOf_263 rfl (by decide) (by decide) ?_
        refine V_goto (tgt := 6) dX12_restOf_266 (by decide) ?_
        exact V_lv' (hk6 _ _ _ hF) (v_all_c rfl (v_all_c rfl (v_all_c rfl (v_all_c rfl (v_all_c rfl (v_all_c rfl (v_all_c rfl v_all_n)))))))
      · replace hF := (if_pos c).symm.trans hF
        refine V_iconst (v := -1) dX12_restOf_242 (by decide) ?_
        cases hF
        exact V_ireturn dX12_restOf_243 rfl rfl ⟨rfl, rfl⟩
    · replace hF := (if_neg c).symm.trans hF
      refine V_iload dX12_restOf_181 rfl ?_
      refine V_iload dX12_restOf_183 rfl ?_
      refine V_icmp_ne (tgt := 192) dX12_restOf_185 (by decide) (fun c => ?_) (fun c => ?_)
      · replace hF := (if_neg c).symm.trans hF
        refine V_aload_n dX12_restOf_192 rfl ?_
        refine V_iload dX12_restOf_193 rfl ?_
        obtain ⟨y4, hc, hF⟩ := bd hF
        refine V_callV G dX12_restOf_195 kX12_445 (wd_at ht.1) ⟨by decide, rfl⟩ (s_X12_sideOf ht G hc (by omega)) rfl (Nat.le_of_ble_eq_true rfl) (fun _ _ _ q => q.elim) ?_
        rintro _ _ ⟨rfl, rfl⟩
        exact V_lv' (w_X12_restOf_L198 ht hp1 G hd ih _ _ _ _ _ _ _ _ hF) (v_all_c rfl (v_all_c rfl (v_all_c rfl (v_all_c rfl (v_all_c rfl (v_all_c rfl (v_all_c rfl (v_all_c rfl (v_all_c rfl (v_all_c rfl (v_all_c rfl v_all_n)))))))))))
      · replace hF := (if_pos c).symm.trans hF
        refine V_iconst (v := -1) dX12_restOf_188 (by decide) ?_
        refine V_goto (tgt := 198) dX12_restOf_189 (by decide) ?_
        exact V_lv' (w_X12_restOf_L198 ht hp1 G hd ih _ _ _ _ _ _ _ _ hF) (v_all_c rfl (v_all_c rfl (v_all_c rfl (v_all_c rfl (v_all_c rfl (v_all_c rfl (v_all_c rfl (v_all_c rfl (v_all_c rfl (v_all_c rfl (v_all_c rfl v_all_n)))))))))))
set_option maxRecDepth 100000 in
set_option maxHeartbeats 4000000 in
theorem w_X12_restOf_L99 {l : Launch} {s0 : State} {D : va_G} {a0 : Array Value} {sh : List Sh} {f : Nat} {t : Nat} {p1 : Nat} {p2 : Int32} {p3 : Int32} {p4 : Int32} (ht : isX12 sh t) (hp1 : isX10 sh p1) {r : Int32 × St} {d : Nat} (G : GC l s0 D a0) (hd : 5 ≤ d + 1) {k6 : St → Int64 → Int32 → Option (Int32 × St)} (hk6 : ∀ (S : St) (l5 : Int64) (l7 : Int32), k6 S l5 l7 = some r → V l s0 D (d + 1) 0 0 mX12_restOf (fun v h => v = some (.int r.1) ∧ h = wd s0.heap.size sh r.2) v_noX 6 [(0, .ref (s0.heap.size + t)), (1, .ref (s0.heap.size + p1)), (2, .int p2), (3, .int p3), (4, .int p4), (5, .long l5), (7, .int l7)] [] (wd s0.heap.size sh S)) : ∀ (n : Nat) (S : St) (l5 : Int64) (l7 : Int32) (l8 : Int32) (l9 : Int64) (l11 : Int64) (l13 : Int32), F_X12_restOf_L99 sh f t p1 p2 p3 p4 k6 n S l5 l7 l8 l9 l11 l13 = some r → V l s0 D (d + 1) 0 0 mX12_restOf (fun v h => v = some (.int r.1) ∧ h = wd s0.heap.size sh r.2) v_noX 99 [(0, .ref (s0.heap.size + t)), (1, .ref (s0.heap.size + p1)), (2, .int p2), (3, .int p3), (4, .int p4), (5, .long l5), (7, .int l7), (8, .int l8), (9, .long l9), (11, .long l11), (13, .int l13)] [] (wd s0.heap.size sh S) := by
  intro n
  induction n with
  | zero => intro S l5 l7 l8 l9 l11 l13 hF; cases hF
  | succ n ih =>
    intro S l5 l7 l8 l9 l11 l13 hF
    unfold F_X12_restOf_L99 at hF
    refine V_iload dX12_restOf_99 rfl ?_
    refine V_aload_n dX12_restOf_101 rfl ?_
    refine X_gI G dX12_restOf_102 fX12_339 hp1.1 rfl ?_
    refine V_icmp_ge (tgt := 169) dX12_restOf_105 (by decide) (fun c => ?_) (fun c => ?_)
    · replace hF := (if_pos c).symm.trans hF
      refine V_iconst (v := 0) dX12_restOf_169 (by decide) ?_
      refine V_istore dX12_restOf_170 (by decide) ?_
      exact V_lv' (w_X12_restOf_L172 ht hp1 G hd hk6 f _ _ _ _ _ _ _ hF) (v_all_c rfl (v_all_c rfl (v_all_c rfl (v_all_c rfl (v_all_c rfl (v_all_c rfl (v_all_c rfl (v_all_c rfl (v_all_c rfl (v_all_c rfl (v_all_c rfl v_all_n)))))))))))
    · replace hF := (if_neg c).symm.trans hF
      refine V_aload_n dX12_restOf_108 rfl ?_
      refine X_gC G dX12_restOf_109 fX12_407 hp1.1 rfl ?_
      refine V_iconst (v := 3) dX12_restOf_112 (by decide) ?_
      refine V_iload dX12_restOf_113 rfl ?_
      refine V_imul dX12_restOf_115 ?_
      refine V_iload dX12_restOf_116 rfl ?_
      refine V_iadd dX12_restOf_118 ?_
      obtain ⟨hz, hF⟩ := gv_out hF
      refine X_iald dX12_restOf_119 hp1.2.2.2.1 hz ?_
      obtain ⟨x1, qx1, hF⟩ := bnd_g hF
      refine B_istore qx1 dX12_restOf_120 (by decide) ?_
      refine V_lload dX12_restOf_122 rfl ?_
      refine V_aload_n dX12_restOf_124 rfl ?_
      obtain ⟨b2, hrb2, hF⟩ := bd hF
      obtain ⟨hb2, hF⟩ := gv_in hF
      replace hb2 := ckX9_ok hb2
      refine X_gR G dX12_restOf_125 fX12_312 ht.1 rfl hrb2 ?_
      refine X_gC G dX12_restOf_128 fX12_287 hb2.1 rfl ?_
      refine V_iload dX12_restOf_131 rfl ?_
      obtain ⟨hz, hF⟩ := gv_out hF
      refine X_iald dX12_restOf_133 hb2.2.2.2.2.2.2.2.2.1 hz ?_
      refine V_i2l dX12_restOf_134 ?_
      refine V_aload_n dX12_restOf_135 rfl ?_
      refine X_gC G dX12_restOf_136 fX12_41 ht.1 rfl ?_
      refine V_aload_n dX12_restOf_139 rfl ?_
      obtain ⟨b3, hrb3, hF⟩ := bd hF
      obtain ⟨hb3, hF⟩ := gv_in hF
      replace hb3 := ckX9_ok hb3
      refine X_gR G dX12_restOf_140 fX12_312 ht.1 rfl hrb3 ?_
      refine X_gC G dX12_restOf_143 fX12_290 hb3.1 rfl ?_
      refine V_iload dX12_restOf_146 rfl ?_
      obtain ⟨hz, hF⟩ := gv_out hF
      refine X_iald dX12_restOf_148 hb3.2.2.2.2.2.2.2.2.2.1 hz ?_
      obtain ⟨hz, hF⟩ := gv_out hF
      refine X_iald dX12_restOf_149 ht.2.2.2.2.2.1 hz ?_
      refine V_i2l dX12_restOf_150 ?_
      refine V_lmul dX12_restOf_151 ?_
      refine V_iload_n dX12_restOf_152 rfl ?_
      obtain ⟨y4, hc, hF⟩ := bd hF
      refine V_callS dX12_restOf_153 kX12_569 (s_X12_mod G hc (by omega)) rfl (Nat.le_of_ble_eq_true rfl) (fun _ _ _ q => q.elim) ?_
      rintro _ _ ⟨rfl, rfl⟩
      refine V_i2l dX12_restOf_156 ?_
      refine V_lmul dX12_restOf_157 ?_
      refine V_iload_n dX12_restOf_158 rfl ?_
      refine V_i2l dX12_restOf_159 ?_
      obtain ⟨hz, hF⟩ := gv_out hF
      refine V_lrem dX12_restOf_160 hz ?_
      obtain ⟨x5, qx5, hF⟩ := bnd_g hF
      refine B_lstore qx5 dX12_restOf_161 (by decide) ?_
      obtain ⟨x6, qx6, hF⟩ := bnd_g hF
      refine B_iinc (v := 1) qx6 dX12_restOf_163 rfl (by decide) (by decide) ?_
      refine V_goto (tgt := 99) dX12_restOf_166 (by decide) ?_
      exact V_lv' (ih _ _ _ _ _ _ _ hF) (v_all_c rfl (v_all_c rfl (v_all_c rfl (v_all_c rfl (v_all_c rfl (v_all_c rfl (v_all_c rfl (v_all_c rfl (v_all_c rfl (v_all_c rfl (v_all_c rfl v_all_n)))))))))))
set_option maxRecDepth 100000 in
set_option maxHeartbeats 4000000 in
theorem w_X12_restOf_L60 {l : Launch} {s0 : State} {D : va_G} {a0 : Array Value} {sh : List Sh} {f : Nat} {t : Nat} {p1 : Nat} {p2 : Int32} {p3 : Int32} {p4 : Int32} (ht : isX12 sh t) (hp1 : isX10 sh p1) {r : Int32 × St} {d : Nat} (G : GC l s0 D a0) (hd : 5 ≤ d + 1) {k6 : St → Int64 → Int32 → Option (Int32 × St)} (hk6 : ∀ (S : St) (l5 : Int64) (l7 : Int32), k6 S l5 l7 = some r → V l s0 D (d + 1) 0 0 mX12_restOf (fun v h => v = some (.int r.1) ∧ h = wd s0.heap.size sh r.2) v_noX 6 [(0, .ref (s0.heap.size + t)), (1, .ref (s0.heap.size + p1)), (2, .int p2), (3, .int p3), (4, .int p4), (5, .long l5), (7, .int l7)] [] (wd s0.heap.size sh S)) : ∀ (S : St) (l5 : Int64) (l7 : Int32) (l8 : Int32), F_X12_restOf_L60 sh f t p1 p2 p3 p4 k6 S l5 l7 l8 = some r → V l s0 D (d + 1) 0 0 mX12_restOf (fun v h => v = some (.int r.1) ∧ h = wd s0.heap.size sh r.2) v_noX 60 [(0, .ref (s0.heap.size + t)), (1, .ref (s0.heap.size + p1)), (2, .int p2), (3, .int p3), (4, .int p4), (5, .long l5), (7, .int l7), (8, .int l8)] [] (wd s0.heap.size sh S) := by
  intro S l5 l7 l8 hF
  unfold F_X12_restOf_L60 at hF
  refine V_aload_n dX12_restOf_60 rfl ?_
  obtain ⟨y1, hc, hF⟩ := bd hF
  refine V_callV G dX12_restOf_61 kX12_461 (wd_at ht.1) ⟨by decide, rfl⟩ (s_X12_signHere ht G hc (by omega)) rfl (Nat.le_of_ble_eq_true rfl) (fun _ _ _ q => q.elim) ?_
  rintro _ _ ⟨rfl, rfl⟩
  refine V_i2l dX12_restOf_64 ?_
  refine V_aload_n dX12_restOf_65 rfl ?_
  refine X_gC G dX12_restOf_66 fX12_416 hp1.1 rfl ?_
  refine V_iload dX12_restOf_69 rfl ?_
  obtain ⟨hz, hF⟩ := gv_out hF
  refine X_iald dX12_restOf_71 hp1.2.2.2.2.1 hz ?_
  refine V_i2l dX12_restOf_72 ?_
  refine V_lmul dX12_restOf_73 ?_
  refine V_iload_n dX12_restOf_74 rfl ?_
  obtain ⟨y2, hc, hF⟩ := bd hF
  refine V_callS dX12_restOf_75 kX12_569 (s_X12_mod G hc (by omega)) rfl (Nat.le_of_ble_eq_true rfl) (fun _ _ _ q => q.elim) ?_
  rintro _ _ ⟨rfl, rfl⟩
  refine V_i2l dX12_restOf_78 ?_
  obtain ⟨x3, qx3, hF⟩ := bnd_g hF
  refine B_lstore qx3 dX12_restOf_79 (by decide) ?_
  refine V_aload_n dX12_restOf_81 rfl ?_
  refine X_gC G dX12_restOf_82 fX12_413 hp1.1 rfl ?_
  refine V_iload dX12_restOf_85 rfl ?_
  obtain ⟨hz, hF⟩ := gv_out hF
  refine X_iald dX12_restOf_87 hp1.2.2.2.2.2.1 hz ?_
  refine V_i2l dX12_restOf_88 ?_
  refine V_iload_n dX12_restOf_89 rfl ?_
  obtain ⟨y4, hc, hF⟩ := bd hF
  refine V_callS dX12_restOf_90 kX12_569 (s_X12_mod G hc (by omega)) rfl (Nat.le_of_ble_eq_true rfl) (fun _ _ _ q => q.elim) ?_
  rintro _ _ ⟨rfl, rfl⟩
  refine V_i2l dX12_restOf_93 ?_
  obtain ⟨x5, qx5, hF⟩ := bnd_g hF
  refine B_lstore qx5 dX12_restOf_94 (by decide) ?_
  refine V_iconst (v := 0) dX12_restOf_96 (by decide) ?_
  refine V_istore dX12_restOf_97 (by decide) ?_
  exact V_lv' (w_X12_restOf_L99 ht hp1 G hd hk6 f _ _ _ _ _ _ _ hF) (v_all_c rfl (v_all_c rfl (v_all_c rfl (v_all_c rfl (v_all_c rfl (v_all_c rfl (v_all_c rfl (v_all_c rfl (v_all_c rfl (v_all_c rfl (v_all_c rfl v_all_n)))))))))))
set_option maxRecDepth 100000 in
set_option maxHeartbeats 4000000 in
theorem w_X12_restOf_L44 {l : Launch} {s0 : State} {D : va_G} {a0 : Array Value} {sh : List Sh} {f : Nat} {t : Nat} {p1 : Nat} {p2 : Int32} {p3 : Int32} {p4 : Int32} (ht : isX12 sh t) (hp1 : isX10 sh p1) {r : Int32 × St} {d : Nat} (G : GC l s0 D a0) (hd : 5 ≤ d + 1) {k6 : St → Int64 → Int32 → Option (Int32 × St)} (hk6 : ∀ (S : St) (l5 : Int64) (l7 : Int32), k6 S l5 l7 = some r → V l s0 D (d + 1) 0 0 mX12_restOf (fun v h => v = some (.int r.1) ∧ h = wd s0.heap.size sh r.2) v_noX 6 [(0, .ref (s0.heap.size + t)), (1, .ref (s0.heap.size + p1)), (2, .int p2), (3, .int p3), (4, .int p4), (5, .long l5), (7, .int l7)] [] (wd s0.heap.size sh S)) : ∀ (S : St) (l5 : Int64) (l7 : Int32) (v0 : Int32), F_X12_restOf_L44 sh f t p1 p2 p3 p4 k6 S l5 l7 v0 = some r → V l s0 D (d + 1) 0 0 mX12_restOf (fun v h => v = some (.int r.1) ∧ h = wd s0.heap.size sh r.2) v_noX 44 [(0, .ref (s0.heap.size + t)), (1, .ref (s0.heap.size + p1)), (2, .int p2), (3, .int p3), (4, .int p4), (5, .long l5), (7, .int l7)] [.int v0] (wd s0.heap.size sh S) := by
  intro S l5 l7 v0 hF
  unfold F_X12_restOf_L44 at hF
  refine V_istore dX12_restOf_44 (by decide) ?_
  refine V_iload_n dX12_restOf_46 rfl ?_
  refine V_iconst (v := -1) dX12_restOf_47 (by decide) ?_
  refine V_icmp_eq (tgt := 60) dX12_restOf_48 (by decide) (fun c => ?_) (fun c => ?_)
  · replace hF := (if_pos c).symm.trans hF
    exact V_lv' (w_X12_restOf_L60 ht hp1 G hd hk6 _ _ _ _ hF) (v_all_c rfl (v_all_c rfl (v_all_c rfl (v_all_c rfl (v_all_c rfl (v_all_c rfl (v_all_c rfl (v_all_c rfl v_all_n))))))))
  · replace hF := (if_neg c).symm.trans hF
    refine V_iload dX12_restOf_51 rfl ?_
    refine V_iconst (v := -1) dX12_restOf_53 (by decide) ?_
    refine V_icmp_ne (tgt := 60) dX12_restOf_54 (by decide) (fun c => ?_) (fun c => ?_)
    · replace hF := (if_neg c).symm.trans hF
      exact V_lv' (w_X12_restOf_L60 ht hp1 G hd hk6 _ _ _ _ hF) (v_all_c rfl (v_all_c rfl (v_all_c rfl (v_all_c rfl (v_all_c rfl (v_all_c rfl (v_all_c rfl (v_all_c rfl v_all_n))))))))
    · replace hF := (if_pos c).symm.trans hF
      refine V_goto (tgt := 263) dX12_restOf_57 (by decide) ?_
      obtain ⟨x1, qx1, hF⟩ := bnd_g hF
      refine B_iinc (v := 1) qx1 dX12_restOf_263 rfl (by decide) (by decide) ?_
      refine V_goto (tgt := 6) dX12_restOf_266 (by decide) ?_
      exact V_lv' (hk6 _ _ _ hF) (v_all_c rfl (v_all_c rfl (v_all_c rfl (v_all_c rfl (v_all_c rfl (v_all_c rfl (v_all_c rfl v_all_n)))))))
set_option maxRecDepth 100000 in
set_option maxHeartbeats 4000000 in
theorem w_X12_restOf_L6 {l : Launch} {s0 : State} {D : va_G} {a0 : Array Value} {sh : List Sh} {f : Nat} {t : Nat} {p1 : Nat} {p2 : Int32} {p3 : Int32} {p4 : Int32} (ht : isX12 sh t) (hp1 : isX10 sh p1) {r : Int32 × St} {d : Nat} (G : GC l s0 D a0) (hd : 5 ≤ d + 1) : ∀ (n : Nat) (S : St) (l5 : Int64) (l7 : Int32), F_X12_restOf_L6 sh f t p1 p2 p3 p4 n S l5 l7 = some r → V l s0 D (d + 1) 0 0 mX12_restOf (fun v h => v = some (.int r.1) ∧ h = wd s0.heap.size sh r.2) v_noX 6 [(0, .ref (s0.heap.size + t)), (1, .ref (s0.heap.size + p1)), (2, .int p2), (3, .int p3), (4, .int p4), (5, .long l5), (7, .int l7)] [] (wd s0.heap.size sh S) := by
  intro n
  induction n with
  | zero => intro S l5 l7 hF; cases hF
  | succ n ih =>
    intro S l5 l7 hF
    unfold F_X12_restOf_L6 at hF
    refine V_iload dX12_restOf_6 rfl ?_
    refine V_aload_n dX12_restOf_8 rfl ?_
    refine X_gI G dX12_restOf_9 fX12_404 hp1.1 rfl ?_
    refine V_icmp_ge (tgt := 269) dX12_restOf_12 (by decide) (fun c => ?_) (fun c => ?_)
    · replace hF := (if_pos c).symm.trans hF
      refine V_lload dX12_restOf_269 rfl ?_
      refine V_l2i dX12_restOf_271 ?_
      cases hF
      exact V_ireturn dX12_restOf_272 rfl rfl ⟨rfl, rfl⟩
    · replace hF := (if_neg c).symm.trans hF
      refine V_aload_n dX12_restOf_15 rfl ?_
      refine V_aload_n dX12_restOf_16 rfl ?_
      refine V_iload dX12_restOf_17 rfl ?_
      obtain ⟨y1, hc, hF⟩ := bd hF
      refine V_callV G dX12_restOf_19 kX12_557 (wd_at ht.1) ⟨by decide, rfl⟩ (s_X12_isTree ht hp1 G hc (by omega)) rfl (Nat.le_of_ble_eq_true rfl) (fun _ _ _ q => q.elim) ?_
      rintro _ _ ⟨rfl, rfl⟩
      refine V_if_ne (tgt := 28) dX12_restOf_22 (by decide) (fun c => ?_) (fun c => ?_)
      · replace hF := (if_neg c).symm.trans hF
        refine V_iload_n dX12_restOf_28 rfl ?_
        refine V_iconst (v := -1) dX12_restOf_29 (by decide) ?_
        refine V_icmp_ne (tgt := 37) dX12_restOf_30 (by decide) (fun c => ?_) (fun c => ?_)
        · replace hF := (if_neg c).symm.trans hF
          refine V_aload_n dX12_restOf_37 rfl ?_
          refine V_iload_n dX12_restOf_38 rfl ?_
          refine V_iload dX12_restOf_39 rfl ?_
          obtain ⟨y2, hc, hF⟩ := bd hF
          refine V_callV G dX12_restOf_41 kX12_560 (wd_at ht.1) ⟨by decide, rfl⟩ (s_X12_cutOf ht G hc (by omega)) rfl (Nat.le_of_ble_eq_true rfl) (fun _ _ _ q => q.elim) ?_
          rintro _ _ ⟨rfl, rfl⟩
          exact V_lv' (w_X12_restOf_L44 ht hp1 G hd ih _ _ _ _ hF) (v_all_c rfl (v_all_c rfl (v_all_c rfl (v_all_c rfl (v_all_c rfl (v_all_c rfl (v_all_c rfl v_all_n)))))))
        · replace hF := (if_pos c).symm.trans hF
          refine V_iconst (v := -1) dX12_restOf_33 (by decide) ?_
          refine V_goto (tgt := 44) dX12_restOf_34 (by decide) ?_
          exact V_lv' (w_X12_restOf_L44 ht hp1 G hd ih _ _ _ _ hF) (v_all_c rfl (v_all_c rfl (v_all_c rfl (v_all_c rfl (v_all_c rfl (v_all_c rfl (v_all_c rfl v_all_n)))))))
      · replace hF := (if_pos c).symm.trans hF
        refine V_goto (tgt := 263) dX12_restOf_25 (by decide) ?_
        obtain ⟨x3, qx3, hF⟩ := bnd_g hF
        refine B_iinc (v := 1) qx3 dX12_restOf_263 rfl (by decide) (by decide) ?_
        refine V_goto (tgt := 6) dX12_restOf_266 (by decide) ?_
        exact V_lv' (ih _ _ _ hF) (v_all_c rfl (v_all_c rfl (v_all_c rfl (v_all_c rfl (v_all_c rfl (v_all_c rfl (v_all_c rfl v_all_n)))))))
set_option maxRecDepth 100000 in
set_option maxHeartbeats 4000000 in
theorem s_X12_restOf {l : Launch} {s0 : State} {D : va_G} {a0 : Array Value} {sh : List Sh} {f : Nat} {S : St} {t : Nat} {p1 : Nat} {p2 : Int32} {p3 : Int32} {p4 : Int32} (ht : isX12 sh t) (hp1 : isX10 sh p1) {r : Int32 × St} (G : GC l s0 D a0) (hF : F_X12_restOf sh f S t p1 p2 p3 p4 = some r) {d : Nat} (hd : 5 ≤ d) : Sp l s0 D d 0 0 mX12_restOf (fun v h => v = some (.int r.1) ∧ h = wd s0.heap.size sh r.2) v_noX [.ref (s0.heap.size + t), .ref (s0.heap.size + p1), .int p2, .int p3, .int p4] (wd s0.heap.size sh S) := by
  obtain ⟨d, rfl⟩ : ∃ e, d = e + 1 := ⟨d - 1, by omega⟩
  refine Sp.of (by decide +kernel) rfl (Nat.le_of_ble_eq_true rfl) ?_
  unfold F_X12_restOf at hF
  refine V_lconst (v := 0) dX12_restOf_0 (by decide) ?_
  refine V_lstore dX12_restOf_1 (by decide) ?_
  refine V_iconst (v := 0) dX12_restOf_3 (by decide) ?_
  refine V_istore dX12_restOf_4 (by decide) ?_
  exact V_lv' (w_X12_restOf_L6 ht hp1 G hd f _ _ _ hF) (v_all_c rfl (v_all_c rfl (v_all_c rfl (v_all_c rfl (v_all_c rfl (v_all_c rfl (v_all_c rfl v_all_n)))))))
set_option maxRecDepth 100000 in
set_option maxHeartbeats 4000000 in
theorem w_X12_isFound_L318 {l : Launch} {s0 : State} {D : va_G} {a0 : Array Value} {sh : List Sh} {f : Nat} {t : Nat} (ht : isX12 sh t) {r : Int32 × St} {d : Nat} (G : GC l s0 D a0) (hd : 2 ≤ d + 1) : ∀ (n : Nat) (S : St) (l24 : Int32), F_X12_isFound_L318 sh f t n S l24 = some r → V l s0 D (d + 1) 0 0 mX12_isFound (fun v h => v = some (.int r.1) ∧ h = wd s0.heap.size sh r.2) v_noX 318 [(0, .ref (s0.heap.size + t)), (24, .int l24)] [] (wd s0.heap.size sh S) := by
  intro n
  induction n with
  | zero => intro S l24 hF; cases hF
  | succ n ih =>
    intro S l24 hF
    unfold F_X12_isFound_L318 at hF
    refine V_iload dX12_isFound_318 rfl ?_
    refine V_iconst (v := 4) dX12_isFound_320 (by decide) ?_
    refine V_icmp_ge (tgt := 344) dX12_isFound_321 (by decide) (fun c => ?_) (fun c => ?_)
    · replace hF := (if_pos c).symm.trans hF
      refine V_iconst (v := 1) dX12_isFound_344 (by decide) ?_
      cases hF
      exact V_ireturn dX12_isFound_345 rfl (by decide) ⟨rfl, rfl⟩
    · replace hF := (if_neg c).symm.trans hF
      refine V_aload_n dX12_isFound_324 rfl ?_
      refine X_gC G dX12_isFound_325 fX12_141 ht.1 rfl ?_
      refine V_iload dX12_isFound_328 rfl ?_
      refine V_aload_n dX12_isFound_330 rfl ?_
      refine X_gC G dX12_isFound_331 fX12_138 ht.1 rfl ?_
      refine V_iload dX12_isFound_334 rfl ?_
      obtain ⟨hz, hF⟩ := gv_out hF
      refine X_iald dX12_isFound_336 ht.2.2.2.2.2.2.2.2.2.2.2.2.2.2.2.2.2.2.2.2.2.2.2.2.2.2.2.2.2.2.2.2.1 hz ?_
      obtain ⟨hz, hF⟩ := gv_out hF
      refine X_iast dX12_isFound_337 ht.2.2.2.2.2.2.2.2.2.2.2.2.2.2.2.2.2.2.2.2.2.2.2.2.2.2.2.2.2.2.2.2.2.1 hz ?_
      obtain ⟨S1, qS1, hF⟩ := bnd_g hF
      refine V_eqS qS1 ?_
      obtain ⟨x2, qx2, hF⟩ := bnd_g hF
      refine B_iinc (v := 1) qx2 dX12_isFound_338 rfl (by decide) (by decide) ?_
      refine V_goto (tgt := 318) dX12_isFound_341 (by decide) ?_
      exact V_lv' (ih _ _ hF) (v_all_c rfl (v_all_c rfl v_all_n))
set_option maxRecDepth 100000 in
set_option maxHeartbeats 4000000 in
theorem w_X12_isFound_L221 {l : Launch} {s0 : State} {D : va_G} {a0 : Array Value} {sh : List Sh} {f : Nat} {t : Nat} (ht : isX12 sh t) {r : Int32 × St} {d : Nat} (G : GC l s0 D a0) (hd : 2 ≤ d + 1) : ∀ (S : St) (l13 : Int64) (l19 : Int64) (v0 : Int64), F_X12_isFound_L221 sh f t S l13 l19 v0 = some r → V l s0 D (d + 1) 0 0 mX12_isFound (fun v h => v = some (.int r.1) ∧ h = wd s0.heap.size sh r.2) v_noX 221 [(0, .ref (s0.heap.size + t)), (13, .long l13), (19, .long l19)] [.long v0] (wd s0.heap.size sh S) := by
  intro S l13 l19 v0 hF
  unfold F_X12_isFound_L221 at hF
  refine V_lstore dX12_isFound_221 (by decide) ?_
  refine V_lload dX12_isFound_223 rfl ?_
  refine V_lconst (v := 0) dX12_isFound_225 (by decide) ?_
  refine V_lcmp dX12_isFound_226 ?_
  refine V_if_eq (tgt := 252) dX12_isFound_227 (by decide) (fun c => ?_) (fun c => ?_)
  · replace hF := (if_pos c).symm.trans hF
    refine V_iconst (v := 0) dX12_isFound_252 (by decide) ?_
    cases hF
    exact V_ireturn dX12_isFound_253 rfl (by decide) ⟨rfl, rfl⟩
  · replace hF := (if_neg c).symm.trans hF
    refine V_lload dX12_isFound_230 rfl ?_
    refine V_ldc2 dX12_isFound_232 qX12_579 ?_
    refine V_lcmp dX12_isFound_235 ?_
    refine V_if_gt (tgt := 252) dX12_isFound_236 (by decide) (fun c => ?_) (fun c => ?_)
    · replace hF := (if_pos c).symm.trans hF
      refine V_iconst (v := 0) dX12_isFound_252 (by decide) ?_
      cases hF
      exact V_ireturn dX12_isFound_253 rfl (by decide) ⟨rfl, rfl⟩
    · replace hF := (if_neg c).symm.trans hF
      refine V_lload dX12_isFound_239 rfl ?_
      refine V_l2i dX12_isFound_241 ?_
      refine V_lload dX12_isFound_242 rfl ?_
      refine V_l2i dX12_isFound_244 ?_
      obtain ⟨y1, hc, hF⟩ := bd hF
      refine V_callS dX12_isFound_245 kX12_458 (s_X12_common G hc (by omega)) rfl (Nat.le_of_ble_eq_true rfl) (fun _ _ _ q => q.elim) ?_
      rintro _ _ ⟨rfl, rfl⟩
      refine V_iconst (v := 1) dX12_isFound_248 (by decide) ?_
      refine V_icmp_eq (tgt := 254) dX12_isFound_249 (by decide) (fun c => ?_) (fun c => ?_)
      · replace hF := (if_pos c).symm.trans hF
        refine V_iconst (v := 3) dX12_isFound_254 (by decide) ?_
        obtain ⟨y2, hc, hF⟩ := bd hF
        refine V_callS dX12_isFound_255 kX12_576 (s_X12_prime G hc (by omega)) rfl (Nat.le_of_ble_eq_true rfl) (fun _ _ _ q => q.elim) ?_
        rintro _ _ ⟨rfl, rfl⟩
        refine V_istore dX12_isFound_258 (by decide) ?_
        refine V_lload dX12_isFound_260 rfl ?_
        refine V_iload dX12_isFound_262 rfl ?_
        obtain ⟨y3, hc, hF⟩ := bd hF
        refine V_callS dX12_isFound_264 kX12_569 (s_X12_mod G hc (by omega)) rfl (Nat.le_of_ble_eq_true rfl) (fun _ _ _ q => q.elim) ?_
        rintro _ _ ⟨rfl, rfl⟩
        refine V_if_eq (tgt := 301) dX12_isFound_267 (by decide) (fun c => ?_) (fun c => ?_)
        · replace hF := (if_pos c).symm.trans hF
          refine V_iconst (v := 0) dX12_isFound_301 (by decide) ?_
          cases hF
          exact V_ireturn dX12_isFound_302 rfl (by decide) ⟨rfl, rfl⟩
        · replace hF := (if_neg c).symm.trans hF
          refine V_lload dX12_isFound_270 rfl ?_
          refine V_iload dX12_isFound_272 rfl ?_
          obtain ⟨y4, hc, hF⟩ := bd hF
          refine V_callS dX12_isFound_274 kX12_569 (s_X12_mod G hc (by omega)) rfl (Nat.le_of_ble_eq_true rfl) (fun _ _ _ q => q.elim) ?_
          rintro _ _ ⟨rfl, rfl⟩
          refine V_aload_n dX12_isFound_277 rfl ?_
          refine X_gC G dX12_isFound_278 fX12_138 ht.1 rfl ?_
          refine V_iconst (v := 3) dX12_isFound_281 (by decide) ?_
          obtain ⟨hz, hF⟩ := gv_out hF
          refine X_iald dX12_isFound_282 ht.2.2.2.2.2.2.2.2.2.2.2.2.2.2.2.2.2.2.2.2.2.2.2.2.2.2.2.2.2.2.2.2.1 hz ?_
          refine V_i2l dX12_isFound_283 ?_
          refine V_lload dX12_isFound_284 rfl ?_
          refine V_iload dX12_isFound_286 rfl ?_
          obtain ⟨y5, hc, hF⟩ := bd hF
          refine V_callS dX12_isFound_288 kX12_569 (s_X12_mod G hc (by omega)) rfl (Nat.le_of_ble_eq_true rfl) (fun _ _ _ q => q.elim) ?_
          rintro _ _ ⟨rfl, rfl⟩
          refine V_i2l dX12_isFound_291 ?_
          refine V_lmul dX12_isFound_292 ?_
          refine V_iload dX12_isFound_293 rfl ?_
          refine V_i2l dX12_isFound_295 ?_
          obtain ⟨hz, hF⟩ := gv_out hF
          refine V_lrem dX12_isFound_296 hz ?_
          refine V_l2i dX12_isFound_297 ?_
          refine V_icmp_eq (tgt := 303) dX12_isFound_298 (by decide) (fun c => ?_) (fun c => ?_)
          · replace hF := (if_pos c).symm.trans hF
            refine V_aload_n dX12_isFound_303 rfl ?_
            refine V_lload dX12_isFound_304 rfl ?_
            refine X_pJ G dX12_isFound_306 gX12_131 ht.1 rfl ?_
            obtain ⟨S6, qS6, hF⟩ := bnd_g hF
            refine V_eqS qS6 ?_
            refine V_aload_n dX12_isFound_309 rfl ?_
            refine V_lload dX12_isFound_310 rfl ?_
            refine X_pJ G dX12_isFound_312 gX12_135 ht.1 rfl ?_
            obtain ⟨S7, qS7, hF⟩ := bnd_g hF
            refine V_eqS qS7 ?_
            refine V_iconst (v := 0) dX12_isFound_315 (by decide) ?_
            refine V_istore dX12_isFound_316 (by decide) ?_
            exact V_lv' (w_X12_isFound_L318 ht G hd f _ _ hF) (v_all_c rfl (v_all_c rfl v_all_n))
          · replace hF := (if_neg c).symm.trans hF
            refine V_iconst (v := 0) dX12_isFound_301 (by decide) ?_
            cases hF
            exact V_ireturn dX12_isFound_302 rfl (by decide) ⟨rfl, rfl⟩
      · replace hF := (if_neg c).symm.trans hF
        refine V_iconst (v := 0) dX12_isFound_252 (by decide) ?_
        cases hF
        exact V_ireturn dX12_isFound_253 rfl (by decide) ⟨rfl, rfl⟩
set_option maxRecDepth 100000 in
set_option maxHeartbeats 4000000 in
theorem w_X12_isFound_L144 {l : Launch} {s0 : State} {D : va_G} {a0 : Array Value} {sh : List Sh} {f : Nat} {t : Nat} (ht : isX12 sh t) {r : Int32 × St} {d : Nat} (G : GC l s0 D a0) (hd : 2 ≤ d + 1) : ∀ (n : Nat) (S : St) (l11 : Int64) (l13 : Int64) (l15 : Int64) (l17 : Int64), F_X12_isFound_L144 sh f t n S l11 l13 l15 l17 = some r → V l s0 D (d + 1) 0 0 mX12_isFound (fun v h => v = some (.int r.1) ∧ h = wd s0.heap.size sh r.2) v_noX 144 [(0, .ref (s0.heap.size + t)), (11, .long l11), (13, .long l13), (15, .long l15), (17, .long l17)] [] (wd s0.heap.size sh S) := by
  intro n
  induction n with
  | zero => intro S l11 l13 l15 l17 hF; cases hF
  | succ n ih =>
    intro S l11 l13 l15 l17 hF
    unfold F_X12_isFound_L144 at hF
    refine V_lload dX12_isFound_144 rfl ?_
    refine V_ldc2 dX12_isFound_146 qX12_579 ?_
    refine V_lcmp dX12_isFound_149 ?_
    refine V_if_le (tgt := 199) dX12_isFound_150 (by decide) (fun c => ?_) (fun c => ?_)
    · replace hF := (if_pos c).symm.trans hF
      refine V_lload dX12_isFound_199 rfl ?_
      obtain ⟨y1, hc, hF⟩ := bd hF
      refine V_callS dX12_isFound_201 kX12_472 (s_J9_abs_067f4 G hc (by omega)) rfl (Nat.le_of_ble_eq_true rfl) (fun _ _ _ q => q.elim) ?_
      rintro _ _ ⟨rfl, rfl⟩
      refine V_lstore dX12_isFound_204 (by decide) ?_
      refine V_lload dX12_isFound_206 rfl ?_
      refine V_lconst (v := 0) dX12_isFound_208 (by decide) ?_
      refine V_lcmp dX12_isFound_209 ?_
      refine V_if_ge (tgt := 219) dX12_isFound_210 (by decide) (fun c => ?_) (fun c => ?_)
      · replace hF := (if_pos c).symm.trans hF
        refine V_lload dX12_isFound_219 rfl ?_
        exact V_lv' (w_X12_isFound_L221 ht G hd _ _ _ _ hF) (v_all_c rfl (v_all_c rfl (v_all_c rfl v_all_n)))
      · replace hF := (if_neg c).symm.trans hF
        refine V_lload dX12_isFound_213 rfl ?_
        refine V_lneg dX12_isFound_215 ?_
        refine V_goto (tgt := 221) dX12_isFound_216 (by decide) ?_
        exact V_lv' (w_X12_isFound_L221 ht G hd _ _ _ _ hF) (v_all_c rfl (v_all_c rfl (v_all_c rfl v_all_n)))
    · replace hF := (if_neg c).symm.trans hF
      refine V_lload dX12_isFound_153 rfl ?_
      refine V_lload dX12_isFound_155 rfl ?_
      obtain ⟨hz, hF⟩ := gv_out hF
      refine V_ldiv dX12_isFound_157 hz ?_
      obtain ⟨x2, qx2, hF⟩ := bnd_g hF
      refine B_lstore qx2 dX12_isFound_158 (by decide) ?_
      refine V_lload dX12_isFound_160 rfl ?_
      refine V_lload dX12_isFound_162 rfl ?_
      refine V_lload dX12_isFound_164 rfl ?_
      refine V_lmul dX12_isFound_166 ?_
      refine V_lsub dX12_isFound_167 ?_
      obtain ⟨x3, qx3, hF⟩ := bnd_g hF
      refine B_lstore qx3 dX12_isFound_168 (by decide) ?_
      refine V_lload dX12_isFound_170 rfl ?_
      refine V_lload dX12_isFound_172 rfl ?_
      refine V_lload dX12_isFound_174 rfl ?_
      refine V_lmul dX12_isFound_176 ?_
      refine V_lsub dX12_isFound_177 ?_
      obtain ⟨x4, qx4, hF⟩ := bnd_g hF
      refine B_lstore qx4 dX12_isFound_178 (by decide) ?_
      refine V_lload dX12_isFound_180 rfl ?_
      refine V_lstore dX12_isFound_182 (by decide) ?_
      refine V_lload dX12_isFound_184 rfl ?_
      refine V_lstore dX12_isFound_186 (by decide) ?_
      refine V_lload dX12_isFound_188 rfl ?_
      refine V_lstore dX12_isFound_190 (by decide) ?_
      refine V_lload dX12_isFound_192 rfl ?_
      refine V_lstore dX12_isFound_194 (by decide) ?_
      refine V_goto (tgt := 144) dX12_isFound_196 (by decide) ?_
      exact V_lv' (ih _ _ _ _ _ hF) (v_all_c rfl (v_all_c rfl (v_all_c rfl (v_all_c rfl (v_all_c rfl v_all_n)))))
set_option maxRecDepth 100000 in
set_option maxHeartbeats 4000000 in
theorem s_X12_isFound {l : Launch} {s0 : State} {D : va_G} {a0 : Array Value} {sh : List Sh} {f : Nat} {S : St} {t : Nat} (ht : isX12 sh t) {r : Int32 × St} (G : GC l s0 D a0) (hF : F_X12_isFound sh f S t = some r) {d : Nat} (hd : 2 ≤ d) : Sp l s0 D d 0 0 mX12_isFound (fun v h => v = some (.int r.1) ∧ h = wd s0.heap.size sh r.2) v_noX [.ref (s0.heap.size + t)] (wd s0.heap.size sh S) := by
  obtain ⟨d, rfl⟩ : ∃ e, d = e + 1 := ⟨d - 1, by omega⟩
  refine Sp.of (by decide +kernel) rfl (Nat.le_of_ble_eq_true rfl) ?_
  unfold F_X12_isFound at hF
  refine V_iconst (v := 0) dX12_isFound_0 (by decide) ?_
  obtain ⟨y1, hc, hF⟩ := bd hF
  refine V_callS dX12_isFound_1 kX12_576 (s_X12_prime G hc (by omega)) rfl (Nat.le_of_ble_eq_true rfl) (fun _ _ _ q => q.elim) ?_
  rintro _ _ ⟨rfl, rfl⟩
  refine V_i2l dX12_isFound_4 ?_
  obtain ⟨x2, qx2, hF⟩ := bnd_g hF
  refine B_lstore_n qx2 dX12_isFound_5 (by decide) ?_
  refine V_iconst (v := 1) dX12_isFound_6 (by decide) ?_
  obtain ⟨y3, hc, hF⟩ := bd hF
  refine V_callS dX12_isFound_7 kX12_576 (s_X12_prime G hc (by omega)) rfl (Nat.le_of_ble_eq_true rfl) (fun _ _ _ q => q.elim) ?_
  rintro _ _ ⟨rfl, rfl⟩
  refine V_i2l dX12_isFound_10 ?_
  obtain ⟨x4, qx4, hF⟩ := bnd_g hF
  refine B_lstore_n qx4 dX12_isFound_11 (by decide) ?_
  refine V_aload_n dX12_isFound_12 rfl ?_
  refine X_gC G dX12_isFound_13 fX12_138 ht.1 rfl ?_
  refine V_iconst (v := 0) dX12_isFound_16 (by decide) ?_
  obtain ⟨hz, hF⟩ := gv_out hF
  refine X_iald dX12_isFound_17 ht.2.2.2.2.2.2.2.2.2.2.2.2.2.2.2.2.2.2.2.2.2.2.2.2.2.2.2.2.2.2.2.2.1 hz ?_
  refine V_i2l dX12_isFound_18 ?_
  obtain ⟨x5, qx5, hF⟩ := bnd_g hF
  refine B_lstore qx5 dX12_isFound_19 (by decide) ?_
  refine V_lload dX12_isFound_21 rfl ?_
  refine V_lload_n dX12_isFound_23 rfl ?_
  refine V_aload_n dX12_isFound_24 rfl ?_
  refine X_gC G dX12_isFound_25 fX12_138 ht.1 rfl ?_
  refine V_iconst (v := 1) dX12_isFound_28 (by decide) ?_
  obtain ⟨hz, hF⟩ := gv_out hF
  refine X_iald dX12_isFound_29 ht.2.2.2.2.2.2.2.2.2.2.2.2.2.2.2.2.2.2.2.2.2.2.2.2.2.2.2.2.2.2.2.2.1 hz ?_
  refine V_i2l dX12_isFound_30 ?_
  refine V_lload dX12_isFound_31 rfl ?_
  refine V_lsub dX12_isFound_33 ?_
  refine V_lload_n dX12_isFound_34 rfl ?_
  obtain ⟨hz, hF⟩ := gv_out hF
  refine V_lrem dX12_isFound_35 hz ?_
  refine V_lload_n dX12_isFound_36 rfl ?_
  refine V_iconst (v := 1) dX12_isFound_37 (by decide) ?_
  obtain ⟨y6, hc, hF⟩ := bd hF
  refine V_callS dX12_isFound_38 kX12_576 (s_X12_prime G hc (by omega)) rfl (Nat.le_of_ble_eq_true rfl) (fun _ _ _ q => q.elim) ?_
  rintro _ _ ⟨rfl, rfl⟩
  obtain ⟨y7, hc, hF⟩ := bd hF
  refine V_callS dX12_isFound_41 kX12_569 (s_X12_mod G hc (by omega)) rfl (Nat.le_of_ble_eq_true rfl) (fun _ _ _ q => q.elim) ?_
  rintro _ _ ⟨rfl, rfl⟩
  refine V_iconst (v := 1) dX12_isFound_44 (by decide) ?_
  obtain ⟨y8, hc, hF⟩ := bd hF
  refine V_callS dX12_isFound_45 kX12_576 (s_X12_prime G hc (by omega)) rfl (Nat.le_of_ble_eq_true rfl) (fun _ _ _ q => q.elim) ?_
  rintro _ _ ⟨rfl, rfl⟩
  obtain ⟨y9, hc, hF⟩ := bd hF
  refine V_callS dX12_isFound_48 kX12_573 (s_X12_inverse G hc (by omega)) rfl (Nat.le_of_ble_eq_true rfl) (fun _ _ _ q => q.elim) ?_
  rintro _ _ ⟨rfl, rfl⟩
  refine V_i2l dX12_isFound_51 ?_
  refine V_lmul dX12_isFound_52 ?_
  refine V_iconst (v := 1) dX12_isFound_53 (by decide) ?_
  obtain ⟨y10, hc, hF⟩ := bd hF
  refine V_callS dX12_isFound_54 kX12_576 (s_X12_prime G hc (by omega)) rfl (Nat.le_of_ble_eq_true rfl) (fun _ _ _ q => q.elim) ?_
  rintro _ _ ⟨rfl, rfl⟩
  obtain ⟨y11, hc, hF⟩ := bd hF
  refine V_callS dX12_isFound_57 kX12_569 (s_X12_mod G hc (by omega)) rfl (Nat.le_of_ble_eq_true rfl) (fun _ _ _ q => q.elim) ?_
  rintro _ _ ⟨rfl, rfl⟩
  refine V_i2l dX12_isFound_60 ?_
  refine V_lmul dX12_isFound_61 ?_
  refine V_ladd dX12_isFound_62 ?_
  obtain ⟨x12, qx12, hF⟩ := bnd_g hF
  refine B_lstore qx12 dX12_isFound_63 (by decide) ?_
  refine V_lload_n dX12_isFound_65 rfl ?_
  refine V_lload_n dX12_isFound_66 rfl ?_
  refine V_lmul dX12_isFound_67 ?_
  obtain ⟨x13, qx13, hF⟩ := bnd_g hF
  refine B_lstore qx13 dX12_isFound_68 (by decide) ?_
  refine V_aload_n dX12_isFound_70 rfl ?_
  refine X_gC G dX12_isFound_71 fX12_138 ht.1 rfl ?_
  refine V_iconst (v := 2) dX12_isFound_74 (by decide) ?_
  obtain ⟨hz, hF⟩ := gv_out hF
  refine X_iald dX12_isFound_75 ht.2.2.2.2.2.2.2.2.2.2.2.2.2.2.2.2.2.2.2.2.2.2.2.2.2.2.2.2.2.2.2.2.1 hz ?_
  refine V_i2l dX12_isFound_76 ?_
  refine V_lload dX12_isFound_77 rfl ?_
  refine V_lsub dX12_isFound_79 ?_
  refine V_iconst (v := 2) dX12_isFound_80 (by decide) ?_
  obtain ⟨y14, hc, hF⟩ := bd hF
  refine V_callS dX12_isFound_81 kX12_576 (s_X12_prime G hc (by omega)) rfl (Nat.le_of_ble_eq_true rfl) (fun _ _ _ q => q.elim) ?_
  rintro _ _ ⟨rfl, rfl⟩
  obtain ⟨y15, hc, hF⟩ := bd hF
  refine V_callS dX12_isFound_84 kX12_569 (s_X12_mod G hc (by omega)) rfl (Nat.le_of_ble_eq_true rfl) (fun _ _ _ q => q.elim) ?_
  rintro _ _ ⟨rfl, rfl⟩
  refine V_i2l dX12_isFound_87 ?_
  obtain ⟨x16, qx16, hF⟩ := bnd_g hF
  refine B_lstore qx16 dX12_isFound_88 (by decide) ?_
  refine V_lload dX12_isFound_90 rfl ?_
  refine V_lload dX12_isFound_92 rfl ?_
  refine V_lload dX12_isFound_94 rfl ?_
  refine V_lload dX12_isFound_96 rfl ?_
  refine V_iconst (v := 2) dX12_isFound_98 (by decide) ?_
  obtain ⟨y17, hc, hF⟩ := bd hF
  refine V_callS dX12_isFound_99 kX12_576 (s_X12_prime G hc (by omega)) rfl (Nat.le_of_ble_eq_true rfl) (fun _ _ _ q => q.elim) ?_
  rintro _ _ ⟨rfl, rfl⟩
  obtain ⟨y18, hc, hF⟩ := bd hF
  refine V_callS dX12_isFound_102 kX12_569 (s_X12_mod G hc (by omega)) rfl (Nat.le_of_ble_eq_true rfl) (fun _ _ _ q => q.elim) ?_
  rintro _ _ ⟨rfl, rfl⟩
  refine V_iconst (v := 2) dX12_isFound_105 (by decide) ?_
  obtain ⟨y19, hc, hF⟩ := bd hF
  refine V_callS dX12_isFound_106 kX12_576 (s_X12_prime G hc (by omega)) rfl (Nat.le_of_ble_eq_true rfl) (fun _ _ _ q => q.elim) ?_
  rintro _ _ ⟨rfl, rfl⟩
  obtain ⟨y20, hc, hF⟩ := bd hF
  refine V_callS dX12_isFound_109 kX12_573 (s_X12_inverse G hc (by omega)) rfl (Nat.le_of_ble_eq_true rfl) (fun _ _ _ q => q.elim) ?_
  rintro _ _ ⟨rfl, rfl⟩
  refine V_i2l dX12_isFound_112 ?_
  refine V_lmul dX12_isFound_113 ?_
  refine V_iconst (v := 2) dX12_isFound_114 (by decide) ?_
  obtain ⟨y21, hc, hF⟩ := bd hF
  refine V_callS dX12_isFound_115 kX12_576 (s_X12_prime G hc (by omega)) rfl (Nat.le_of_ble_eq_true rfl) (fun _ _ _ q => q.elim) ?_
  rintro _ _ ⟨rfl, rfl⟩
  refine V_i2l dX12_isFound_118 ?_
  obtain ⟨hz, hF⟩ := gv_out hF
  refine V_lrem dX12_isFound_119 hz ?_
  refine V_lmul dX12_isFound_120 ?_
  refine V_ladd dX12_isFound_121 ?_
  obtain ⟨x22, qx22, hF⟩ := bnd_g hF
  refine B_lstore qx22 dX12_isFound_122 (by decide) ?_
  refine V_lload dX12_isFound_124 rfl ?_
  refine V_iconst (v := 2) dX12_isFound_126 (by decide) ?_
  obtain ⟨y23, hc, hF⟩ := bd hF
  refine V_callS dX12_isFound_127 kX12_576 (s_X12_prime G hc (by omega)) rfl (Nat.le_of_ble_eq_true rfl) (fun _ _ _ q => q.elim) ?_
  rintro _ _ ⟨rfl, rfl⟩
  refine V_i2l dX12_isFound_130 ?_
  refine V_lmul dX12_isFound_131 ?_
  obtain ⟨x24, qx24, hF⟩ := bnd_g hF
  refine B_lstore qx24 dX12_isFound_132 (by decide) ?_
  refine V_lload dX12_isFound_134 rfl ?_
  refine V_lstore dX12_isFound_136 (by decide) ?_
  refine V_lconst (v := 0) dX12_isFound_138 (by decide) ?_
  refine V_lstore dX12_isFound_139 (by decide) ?_
  refine V_lconst (v := 1) dX12_isFound_141 (by decide) ?_
  refine V_lstore dX12_isFound_142 (by decide) ?_
  exact V_lv' (w_X12_isFound_L144 ht G hd f _ _ _ _ _ hF) (v_all_c rfl (v_all_c rfl (v_all_c rfl (v_all_c rfl (v_all_c rfl v_all_n)))))

