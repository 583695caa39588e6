set_option maxRecDepth 100000 in
set_option maxHeartbeats 4000000 in
theorem s_X12_takesAway {l : Launch} {s0 : State} {D : va_G} {a0 : Array Value} {sh : List Sh} {f : Nat} {S : St} {t : Nat} {p1 n1 : Nat} {p2 n2 : Nat} (ht : isX12 sh t) (hp1 : sh[p1]? = some (.inl (.int, n1))) (hp2 : sh[p2]? = some (.inl (.int, n2))) {r : St} (G : GC l s0 D a0) (hF : F_X12_takesAway sh f S t p1 n1 p2 n2 = some r) {d : Nat} (hd : 2 ≤ d) : Sp l s0 D d 0 0 mX12_takesAway (fun v h => v = none ∧ h = wd s0.heap.size sh r) v_noX [.ref (s0.heap.size + t), .ref (s0.heap.size + p1), .ref (s0.heap.size + p2)] (wd s0.heap.size sh S) := by
  obtain ⟨d, rfl⟩ : ∃ e, d = e + 1 := ⟨d - 1, by omega⟩
  refine Sp.of (by decide +kernel) rfl (Nat.le_of_ble_eq_true rfl) ?_
  unfold F_X12_takesAway at hF
  refine V_aload_n dX12_takesAway_0 rfl ?_
  refine X_gC G dX12_takesAway_1 fX12_112 ht.1 rfl ?_
  refine V_aload_n dX12_takesAway_4 rfl ?_
  obtain ⟨y1, hc, hF⟩ := bd hF
  refine V_callS dX12_takesAway_5 kX12_480 (s_X12_copies ht.2.2.2.2.2.2.2.2.2.2.2.2.2.2.2.2.2.2.2.2.2.2.2.2.2.2.2.1 hp2 G hc (by omega)) rfl (Nat.le_of_ble_eq_true rfl) (fun _ _ _ q => q.elim) ?_
  rintro _ _ ⟨rfl, rfl⟩
  refine V_aload_n dX12_takesAway_8 rfl ?_
  refine X_gC G dX12_takesAway_9 fX12_112 ht.1 rfl ?_
  obtain ⟨y2, hc, hF⟩ := bd hF
  refine V_callS dX12_takesAway_12 kX12_476 (s_X12_turns ht.2.2.2.2.2.2.2.2.2.2.2.2.2.2.2.2.2.2.2.2.2.2.2.2.2.2.2.1 G hc (by omega)) rfl (Nat.le_of_ble_eq_true rfl) (fun _ _ _ q => q.elim) ?_
  rintro _ _ ⟨rfl, rfl⟩
  refine V_aload_n dX12_takesAway_15 rfl ?_
  refine V_aload_n dX12_takesAway_16 rfl ?_
  refine X_gC G dX12_takesAway_17 fX12_112 ht.1 rfl ?_
  obtain ⟨y3, hc, hF⟩ := bd hF
  refine V_callS dX12_takesAway_20 kX12_484 (s_X12_adds hp1 ht.2.2.2.2.2.2.2.2.2.2.2.2.2.2.2.2.2.2.2.2.2.2.2.2.2.2.2.1 G hc (by omega)) rfl (Nat.le_of_ble_eq_true rfl) (fun _ _ _ q => q.elim) ?_
  rintro _ _ ⟨rfl, rfl⟩
  cases hF
  exact V_return dX12_takesAway_23 rfl ⟨rfl, rfl⟩
set_option maxRecDepth 100000 in
set_option maxHeartbeats 4000000 in
theorem w_X12_divisor_L63 {l : Launch} {s0 : State} {D : va_G} {a0 : Array Value} {sh : List Sh} {f : Nat} {t : Nat} {p1 n1 : Nat} {p2 n2 : Nat} (ht : isX12 sh t) (hp1 : sh[p1]? = some (.inl (.int, n1))) (hp2 : sh[p2]? = some (.inl (.int, n2))) {r : St} {d : Nat} (G : GC l s0 D a0) (hd : 3 ≤ d + 1) {k41 : St → Int32 → Option (St)} (hk41 : ∀ (S : St) (l3 : Int32), k41 S l3 = some r → V l s0 D (d + 1) 0 0 mX12_divisor (fun v h => v = none ∧ h = wd s0.heap.size sh r) v_noX 41 [(0, .ref (s0.heap.size + t)), (1, .ref (s0.heap.size + p1)), (2, .ref (s0.heap.size + p2)), (3, .int l3)] [] (wd s0.heap.size sh S)) : ∀ (n : Nat) (S : St) (l3 : Int32), F_X12_divisor_L63 sh f t p1 n1 p2 n2 k41 n S l3 = some r → V l s0 D (d + 1) 0 0 mX12_divisor (fun v h => v = none ∧ h = wd s0.heap.size sh r) v_noX 63 [(0, .ref (s0.heap.size + t)), (1, .ref (s0.heap.size + p1)), (2, .ref (s0.heap.size + p2)), (3, .int l3)] [] (wd s0.heap.size sh S) := by
  intro n
  induction n with
  | zero => intro S l3 hF; cases hF
  | succ n ih =>
    intro S l3 hF
    unfold F_X12_divisor_L63 at hF
    refine V_aload_n dX12_divisor_63 rfl ?_
    refine V_iconst (v := 0) dX12_divisor_64 (by decide) ?_
    obtain ⟨hz, hF⟩ := gv_out hF
    refine X_iald dX12_divisor_65 hp2 hz ?_
    refine V_iconst (v := 1) dX12_divisor_66 (by decide) ?_
    refine V_iand dX12_divisor_67 ?_
    refine V_if_ne (tgt := 78) dX12_divisor_68 (by decide) (fun c => ?_) (fun c => ?_)
    · replace hF := (if_neg c).symm.trans hF
      refine V_aload_n dX12_divisor_78 rfl ?_
      refine V_aload_n dX12_divisor_79 rfl ?_
      obtain ⟨y1, hc, hF⟩ := bd hF
      refine V_callS dX12_divisor_80 kX12_494 (s_X12_isNoLess hp2 hp1 G hc (by omega)) rfl (Nat.le_of_ble_eq_true rfl) (fun _ _ _ q => q.elim) ?_
      rintro _ _ ⟨rfl, rfl⟩
      refine V_if_eq (tgt := 95) dX12_divisor_83 (by decide) (fun c => ?_) (fun c => ?_)
      · replace hF := (if_pos c).symm.trans hF
        refine V_aload_n dX12_divisor_95 rfl ?_
        refine V_aload_n dX12_divisor_96 rfl ?_
        refine V_aload_n dX12_divisor_97 rfl ?_
        obtain ⟨y2, hc, hF⟩ := bd hF
        refine V_callV G dX12_divisor_98 kX12_498 (wd_at ht.1) ⟨by decide, rfl⟩ (s_X12_takesAway ht hp1 hp2 G hc (by omega)) rfl (Nat.le_of_ble_eq_true rfl) (fun _ _ _ q => q.elim) ?_
        rintro _ _ ⟨rfl, rfl⟩
        refine V_goto (tgt := 41) dX12_divisor_101 (by decide) ?_
        exact V_lv' (hk41 _ _ hF) (v_all_c rfl (v_all_c rfl (v_all_c rfl (v_all_c rfl v_all_n))))
      · replace hF := (if_neg c).symm.trans hF
        refine V_aload_n dX12_divisor_86 rfl ?_
        refine V_aload_n dX12_divisor_87 rfl ?_
        refine V_aload_n dX12_divisor_88 rfl ?_
        obtain ⟨y3, hc, hF⟩ := bd hF
        refine V_callV G dX12_divisor_89 kX12_498 (wd_at ht.1) ⟨by decide, rfl⟩ (s_X12_takesAway ht hp2 hp1 G hc (by omega)) rfl (Nat.le_of_ble_eq_true rfl) (fun _ _ _ q => q.elim) ?_
        rintro _ _ ⟨rfl, rfl⟩
        refine V_goto (tgt := 41) dX12_divisor_92 (by decide) ?_
        exact V_lv' (hk41 _ _ hF) (v_all_c rfl (v_all_c rfl (v_all_c rfl (v_all_c rfl v_all_n))))
    · replace hF := (if_pos c).symm.trans hF
      refine V_aload_n dX12_divisor_71 rfl ?_
      obtain ⟨y4, hc, hF⟩ := bd hF
      refine V_callS dX12_divisor_72 kX12_491 (s_X12_halves hp2 G hc (by omega)) rfl (Nat.le_of_ble_eq_true rfl) (fun _ _ _ q => q.elim) ?_
      rintro _ _ ⟨rfl, rfl⟩
      refine V_goto (tgt := 63) dX12_divisor_75 (by decide) ?_
      exact V_lv' (ih _ _ hF) (v_all_c rfl (v_all_c rfl (v_all_c rfl (v_all_c rfl v_all_n))))
set_option maxRecDepth 100000 in
set_option maxHeartbeats 4000000 in
theorem w_X12_divisor_L48 {l : Launch} {s0 : State} {D : va_G} {a0 : Array Value} {sh : List Sh} {f : Nat} {t : Nat} {p1 n1 : Nat} {p2 n2 : Nat} (ht : isX12 sh t) (hp1 : sh[p1]? = some (.inl (.int, n1))) (hp2 : sh[p2]? = some (.inl (.int, n2))) {r : St} {d : Nat} (G : GC l s0 D a0) (hd : 3 ≤ d + 1) {k41 : St → Int32 → Option (St)} (hk41 : ∀ (S : St) (l3 : Int32), k41 S l3 = some r → V l s0 D (d + 1) 0 0 mX12_divisor (fun v h => v = none ∧ h = wd s0.heap.size sh r) v_noX 41 [(0, .ref (s0.heap.size + t)), (1, .ref (s0.heap.size + p1)), (2, .ref (s0.heap.size + p2)), (3, .int l3)] [] (wd s0.heap.size sh S)) : ∀ (n : Nat) (S : St) (l3 : Int32), F_X12_divisor_L48 sh f t p1 n1 p2 n2 k41 n S l3 = some r → V l s0 D (d + 1) 0 0 mX12_divisor (fun v h => v = none ∧ h = wd s0.heap.size sh r) v_noX 48 [(0, .ref (s0.heap.size + t)), (1, .ref (s0.heap.size + p1)), (2, .ref (s0.heap.size + p2)), (3, .int l3)] [] (wd s0.heap.size sh S) := by
  intro n
  induction n with
  | zero => intro S l3 hF; cases hF
  | succ n ih =>
    intro S l3 hF
    unfold F_X12_divisor_L48 at hF
    refine V_aload_n dX12_divisor_48 rfl ?_
    refine V_iconst (v := 0) dX12_divisor_49 (by decide) ?_
    obtain ⟨hz, hF⟩ := gv_out hF
    refine X_iald dX12_divisor_50 hp1 hz ?_
    refine V_iconst (v := 1) dX12_divisor_51 (by decide) ?_
    refine V_iand dX12_divisor_52 ?_
    refine V_if_ne (tgt := 63) dX12_divisor_53 (by decide) (fun c => ?_) (fun c => ?_)
    · replace hF := (if_neg c).symm.trans hF
      exact V_lv' (w_X12_divisor_L63 ht hp1 hp2 G hd hk41 f _ _ hF) (v_all_c rfl (v_all_c rfl (v_all_c rfl (v_all_c rfl v_all_n))))
    · replace hF := (if_pos c).symm.trans hF
      refine V_aload_n dX12_divisor_56 rfl ?_
      obtain ⟨y1, hc, hF⟩ := bd hF
      refine V_callS dX12_divisor_57 kX12_491 (s_X12_halves hp1 G hc (by omega)) rfl (Nat.le_of_ble_eq_true rfl) (fun _ _ _ q => q.elim) ?_
      rintro _ _ ⟨rfl, rfl⟩
      refine V_goto (tgt := 48) dX12_divisor_60 (by decide) ?_
      exact V_lv' (ih _ _ hF) (v_all_c rfl (v_all_c rfl (v_all_c rfl (v_all_c rfl v_all_n))))
set_option maxRecDepth 100000 in
set_option maxHeartbeats 4000000 in
theorem w_X12_divisor_L107 {l : Launch} {s0 : State} {D : va_G} {a0 : Array Value} {sh : List Sh} {f : Nat} {t : Nat} {p1 n1 : Nat} {p2 n2 : Nat} (ht : isX12 sh t) (hp1 : sh[p1]? = some (.inl (.int, n1))) (hp2 : sh[p2]? = some (.inl (.int, n2))) {r : St} {d : Nat} (G : GC l s0 D a0) (hd : 3 ≤ d + 1) : ∀ (n : Nat) (S : St) (l3 : Int32) (l4 : Int32), F_X12_divisor_L107 sh f t p1 n1 p2 n2 n S l3 l4 = some r → V l s0 D (d + 1) 0 0 mX12_divisor (fun v h => v = none ∧ h = wd s0.heap.size sh r) v_noX 107 [(1, .ref (s0.heap.size + p1)), (3, .int l3), (4, .int l4)] [] (wd s0.heap.size sh S) := by
  intro n
  induction n with
  | zero => intro S l3 l4 hF; cases hF
  | succ n ih =>
    intro S l3 l4 hF
    unfold F_X12_divisor_L107 at hF
    refine V_iload dX12_divisor_107 rfl ?_
    refine V_iload_n dX12_divisor_109 rfl ?_
    refine V_icmp_ge (tgt := 124) dX12_divisor_110 (by decide) (fun c => ?_) (fun c => ?_)
    · replace hF := (if_pos c).symm.trans hF
      cases hF
      exact V_return dX12_divisor_124 rfl ⟨rfl, rfl⟩
    · replace hF := (if_neg c).symm.trans hF
      refine V_aload_n dX12_divisor_113 rfl ?_
      refine V_aload_n dX12_divisor_114 rfl ?_
      obtain ⟨y1, hc, hF⟩ := bd hF
      refine V_callS dX12_divisor_115 kX12_484 (s_X12_adds hp1 hp1 G hc (by omega)) rfl (Nat.le_of_ble_eq_true rfl) (fun _ _ _ q => q.elim) ?_
      rintro _ _ ⟨rfl, rfl⟩
      obtain ⟨x2, qx2, hF⟩ := bnd_g hF
      refine B_iinc (v := 1) qx2 dX12_divisor_118 rfl (by decide) (by decide) ?_
      refine V_goto (tgt := 107) dX12_divisor_121 (by decide) ?_
      exact V_lv' (ih _ _ _ hF) (v_all_c rfl (v_all_c rfl (v_all_c rfl v_all_n)))
set_option maxRecDepth 100000 in
set_option maxHeartbeats 4000000 in
theorem w_X12_divisor_L41 {l : Launch} {s0 : State} {D : va_G} {a0 : Array Value} {sh : List Sh} {f : Nat} {t : Nat} {p1 n1 : Nat} {p2 n2 : Nat} (ht : isX12 sh t) (hp1 : sh[p1]? = some (.inl (.int, n1))) (hp2 : sh[p2]? = some (.inl (.int, n2))) {r : St} {d : Nat} (G : GC l s0 D a0) (hd : 3 ≤ d + 1) : ∀ (n : Nat) (S : St) (l3 : Int32), F_X12_divisor_L41 sh f t p1 n1 p2 n2 n S l3 = some r → V l s0 D (d + 1) 0 0 mX12_divisor (fun v h => v = none ∧ h = wd s0.heap.size sh r) v_noX 41 [(0, .ref (s0.heap.size + t)), (1, .ref (s0.heap.size + p1)), (2, .ref (s0.heap.size + p2)), (3, .int l3)] [] (wd s0.heap.size sh S) := by
  intro n
  induction n with
  | zero => intro S l3 hF; cases hF
  | succ n ih =>
    intro S l3 hF
    unfold F_X12_divisor_L41 at hF
    refine V_aload_n dX12_divisor_41 rfl ?_
    obtain ⟨y1, hc, hF⟩ := bd hF
    refine V_callS dX12_divisor_42 kX12_487 (s_X12_isZero hp2 G hc (by omega)) rfl (Nat.le_of_ble_eq_true rfl) (fun _ _ _ q => q.elim) ?_
    rintro _ _ ⟨rfl, rfl⟩
    refine V_if_ne (tgt := 104) dX12_divisor_45 (by decide) (fun c => ?_) (fun c => ?_)
    · replace hF := (if_neg c).symm.trans hF
      refine V_iconst (v := 0) dX12_divisor_104 (by decide) ?_
      refine V_istore dX12_divisor_105 (by decide) ?_
      exact V_lv' (w_X12_divisor_L107 ht hp1 hp2 G hd f _ _ _ hF) (v_all_c rfl (v_all_c rfl (v_all_c rfl v_all_n)))
    · replace hF := (if_pos c).symm.trans hF
      exact V_lv' (w_X12_divisor_L48 ht hp1 hp2 G hd ih f _ _ hF) (v_all_c rfl (v_all_c rfl (v_all_c rfl (v_all_c rfl v_all_n))))
set_option maxRecDepth 100000 in
set_option maxHeartbeats 4000000 in
theorem w_X12_divisor_L15 {l : Launch} {s0 : State} {D : va_G} {a0 : Array Value} {sh : List Sh} {f : Nat} {t : Nat} {p1 n1 : Nat} {p2 n2 : Nat} (ht : isX12 sh t) (hp1 : sh[p1]? = some (.inl (.int, n1))) (hp2 : sh[p2]? = some (.inl (.int, n2))) {r : St} {d : Nat} (G : GC l s0 D a0) (hd : 3 ≤ d + 1) : ∀ (n : Nat) (S : St) (l3 : Int32), F_X12_divisor_L15 sh f t p1 n1 p2 n2 n S l3 = some r → V l s0 D (d + 1) 0 0 mX12_divisor (fun v h => v = none ∧ h = wd s0.heap.size sh r) v_noX 15 [(0, .ref (s0.heap.size + t)), (1, .ref (s0.heap.size + p1)), (2, .ref (s0.heap.size + p2)), (3, .int l3)] [] (wd s0.heap.size sh S) := by
  intro n
  induction n with
  | zero => intro S l3 hF; cases hF
  | succ n ih =>
    intro S l3 hF
    unfold F_X12_divisor_L15 at hF
    refine V_aload_n dX12_divisor_15 rfl ?_
    refine V_iconst (v := 0) dX12_divisor_16 (by decide) ?_
    obtain ⟨hz, hF⟩ := gv_out hF
    refine X_iald dX12_divisor_17 hp1 hz ?_
    refine V_aload_n dX12_divisor_18 rfl ?_
    refine V_iconst (v := 0) dX12_divisor_19 (by decide) ?_
    obtain ⟨hz, hF⟩ := gv_out hF
    refine X_iald dX12_divisor_20 hp2 hz ?_
    refine V_ior dX12_divisor_21 ?_
    refine V_iconst (v := 1) dX12_divisor_22 (by decide) ?_
    refine V_iand dX12_divisor_23 ?_
    refine V_if_ne (tgt := 41) dX12_divisor_24 (by decide) (fun c => ?_) (fun c => ?_)
    · replace hF := (if_neg c).symm.trans hF
      exact V_lv' (w_X12_divisor_L41 ht hp1 hp2 G hd f _ _ hF) (v_all_c rfl (v_all_c rfl (v_all_c rfl (v_all_c rfl v_all_n))))
    · replace hF := (if_pos c).symm.trans hF
      refine V_aload_n dX12_divisor_27 rfl ?_
      obtain ⟨y1, hc, hF⟩ := bd hF
      refine V_callS dX12_divisor_28 kX12_491 (s_X12_halves hp1 G hc (by omega)) rfl (Nat.le_of_ble_eq_true rfl) (fun _ _ _ q => q.elim) ?_
      rintro _ _ ⟨rfl, rfl⟩
      refine V_aload_n dX12_divisor_31 rfl ?_
      obtain ⟨y2, hc, hF⟩ := bd hF
      refine V_callS dX12_divisor_32 kX12_491 (s_X12_halves hp2 G hc (by omega)) rfl (Nat.le_of_ble_eq_true rfl) (fun _ _ _ q => q.elim) ?_
      rintro _ _ ⟨rfl, rfl⟩
      obtain ⟨x3, qx3, hF⟩ := bnd_g hF
      refine B_iinc (v := 1) qx3 dX12_divisor_35 rfl (by decide) (by decide) ?_
      refine V_goto (tgt := 15) dX12_divisor_38 (by decide) ?_
      exact V_lv' (ih _ _ hF) (v_all_c rfl (v_all_c rfl (v_all_c rfl (v_all_c rfl v_all_n))))
set_option maxRecDepth 100000 in
set_option maxHeartbeats 4000000 in
theorem s_X12_divisor {l : Launch} {s0 : State} {D : va_G} {a0 : Array Value} {sh : List Sh} {f : Nat} {S : St} {t : Nat} {p1 n1 : Nat} {p2 n2 : Nat} (ht : isX12 sh t) (hp1 : sh[p1]? = some (.inl (.int, n1))) (hp2 : sh[p2]? = some (.inl (.int, n2))) {r : St} (G : GC l s0 D a0) (hF : F_X12_divisor sh f S t p1 n1 p2 n2 = some r) {d : Nat} (hd : 3 ≤ d) : Sp l s0 D d 0 0 mX12_divisor (fun v h => v = none ∧ h = wd s0.heap.size sh r) v_noX [.ref (s0.heap.size + t), .ref (s0.heap.size + p1), .ref (s0.heap.size + p2)] (wd s0.heap.size sh S) := by
  obtain ⟨d, rfl⟩ : ∃ e, d = e + 1 := ⟨d - 1, by omega⟩
  refine Sp.of (by decide +kernel) rfl (Nat.le_of_ble_eq_true rfl) ?_
  unfold F_X12_divisor at hF
  refine V_iconst (v := 0) dX12_divisor_0 (by decide) ?_
  refine V_istore_n dX12_divisor_1 (by decide) ?_
  refine V_aload_n dX12_divisor_2 rfl ?_
  obtain ⟨y1, hc, hF⟩ := bd hF
  refine V_callS dX12_divisor_3 kX12_487 (s_X12_isZero hp1 G hc (by omega)) rfl (Nat.le_of_ble_eq_true rfl) (fun _ _ _ q => q.elim) ?_
  rintro _ _ ⟨rfl, rfl⟩
  refine V_if_eq (tgt := 15) dX12_divisor_6 (by decide) (fun c => ?_) (fun c => ?_)
  · replace hF := (if_pos c).symm.trans hF
    exact V_lv' (w_X12_divisor_L15 ht hp1 hp2 G hd f _ _ hF) (v_all_c rfl (v_all_c rfl (v_all_c rfl (v_all_c rfl v_all_n))))
  · replace hF := (if_neg c).symm.trans hF
    refine V_aload_n dX12_divisor_9 rfl ?_
    refine V_aload_n dX12_divisor_10 rfl ?_
    obtain ⟨y2, hc, hF⟩ := bd hF
    refine V_callS dX12_divisor_11 kX12_480 (s_X12_copies hp1 hp2 G hc (by omega)) rfl (Nat.le_of_ble_eq_true rfl) (fun _ _ _ q => q.elim) ?_
    rintro _ _ ⟨rfl, rfl⟩
    cases hF
    exact V_return dX12_divisor_14 rfl ⟨rfl, rfl⟩
set_option maxRecDepth 100000 in
set_option maxHeartbeats 4000000 in
theorem w_X12_divides_L35 {l : Launch} {s0 : State} {D : va_G} {a0 : Array Value} {sh : List Sh} {f : Nat} {t : Nat} {p1 n1 : Nat} {p2 n2 : Nat} (ht : isX12 sh t) (hp1 : sh[p1]? = some (.inl (.int, n1))) (hp2 : sh[p2]? = some (.inl (.int, n2))) {r : St} {d : Nat} (G : GC l s0 D a0) (hd : 2 ≤ d + 1) : ∀ (n : Nat) (S : St) (l3 : Int32), F_X12_divides_L35 sh f t p1 n1 p2 n2 n S l3 = some r → V l s0 D (d + 1) 0 0 mX12_divides (fun v h => v = none ∧ h = wd s0.heap.size sh r) v_noX 35 [(0, .ref (s0.heap.size + t)), (1, .ref (s0.heap.size + p1)), (2, .ref (s0.heap.size + p2)), (3, .int l3)] [] (wd s0.heap.size sh S) := by
  intro n
  induction n with
  | zero => intro S l3 hF; cases hF
  | succ n ih =>
    intro S l3 hF
    unfold F_X12_divides_L35 at hF
    refine V_iload_n dX12_divides_35 rfl ?_
    refine V_if_lt (tgt := 124) dX12_divides_36 (by decide) (fun c => ?_) (fun c => ?_)
    · replace hF := (if_pos c).symm.trans hF
      refine V_aload_n dX12_divides_124 rfl ?_
      refine V_aload_n dX12_divides_125 rfl ?_
      refine X_gC G dX12_divides_126 fX12_106 ht.1 rfl ?_
      obtain ⟨y1, hc, hF⟩ := bd hF
      refine V_callS dX12_divides_129 kX12_480 (s_X12_copies hp1 ht.2.2.2.2.2.2.2.2.2.2.2.2.2.2.2.2.2.2.2.2.2.2.2.2.2.1 G hc (by omega)) rfl (Nat.le_of_ble_eq_true rfl) (fun _ _ _ q => q.elim) ?_
      rintro _ _ ⟨rfl, rfl⟩
      cases hF
      exact V_return dX12_divides_132 rfl ⟨rfl, rfl⟩
    · replace hF := (if_neg c).symm.trans hF
      refine V_aload_n dX12_divides_39 rfl ?_
      refine X_gC G dX12_divides_40 fX12_109 ht.1 rfl ?_
      refine V_aload_n dX12_divides_43 rfl ?_
      refine X_gC G dX12_divides_44 fX12_109 ht.1 rfl ?_
      obtain ⟨y2, hc, hF⟩ := bd hF
      refine V_callS dX12_divides_47 kX12_484 (s_X12_adds ht.2.2.2.2.2.2.2.2.2.2.2.2.2.2.2.2.2.2.2.2.2.2.2.2.2.2.1 ht.2.2.2.2.2.2.2.2.2.2.2.2.2.2.2.2.2.2.2.2.2.2.2.2.2.2.1 G hc (by omega)) rfl (Nat.le_of_ble_eq_true rfl) (fun _ _ _ q => q.elim) ?_
      rintro _ _ ⟨rfl, rfl⟩
      refine V_aload_n dX12_divides_50 rfl ?_
      refine X_gC G dX12_divides_51 fX12_109 ht.1 rfl ?_
      refine V_iconst (v := 0) dX12_divides_54 (by decide) ?_
      refine V_dup2 dX12_divides_55 rfl rfl ?_
      obtain ⟨hz, hF⟩ := gv_out hF
      refine X_iald dX12_divides_56 ht.2.2.2.2.2.2.2.2.2.2.2.2.2.2.2.2.2.2.2.2.2.2.2.2.2.2.1 hz ?_
      refine V_aload_n dX12_divides_57 rfl ?_
      refine V_iload_n dX12_divides_58 rfl ?_
      refine V_bipush (v := 32) dX12_divides_59 (by decide) ?_
      refine V_idiv dX12_divides_61 (by decide) ?_
      obtain ⟨hz, hF⟩ := gv_out hF
      refine X_iald dX12_divides_62 hp1 hz ?_
      refine V_iload_n dX12_divides_63 rfl ?_
      refine V_bipush (v := 32) dX12_divides_64 (by decide) ?_
      refine V_irem dX12_divides_66 (by decide) ?_
      refine V_iushr dX12_divides_67 ?_
      refine V_iconst (v := 1) dX12_divides_68 (by decide) ?_
      refine V_iand dX12_divides_69 ?_
      refine V_ior dX12_divides_70 ?_
      obtain ⟨hz, hF⟩ := gv_out hF
      refine X_iast dX12_divides_71 ht.2.2.2.2.2.2.2.2.2.2.2.2.2.2.2.2.2.2.2.2.2.2.2.2.2.2.1 hz ?_
      obtain ⟨S3, qS3, hF⟩ := bnd_g hF
      refine V_eqS qS3 ?_
      refine V_aload_n dX12_divides_72 rfl ?_
      refine X_gC G dX12_divides_73 fX12_106 ht.1 rfl ?_
      refine V_aload_n dX12_divides_76 rfl ?_
      refine X_gC G dX12_divides_77 fX12_106 ht.1 rfl ?_
      obtain ⟨y4, hc, hF⟩ := bd hF
      refine V_callS dX12_divides_80 kX12_484 (s_X12_adds ht.2.2.2.2.2.2.2.2.2.2.2.2.2.2.2.2.2.2.2.2.2.2.2.2.2.1 ht.2.2.2.2.2.2.2.2.2.2.2.2.2.2.2.2.2.2.2.2.2.2.2.2.2.1 G hc (by omega)) rfl (Nat.le_of_ble_eq_true rfl) (fun _ _ _ q => q.elim) ?_
      rintro _ _ ⟨rfl, rfl⟩
      refine V_aload_n dX12_divides_83 rfl ?_
      refine X_gC G dX12_divides_84 fX12_109 ht.1 rfl ?_
      refine V_aload_n dX12_divides_87 rfl ?_
      obtain ⟨y5, hc, hF⟩ := bd hF
      refine V_callS dX12_divides_88 kX12_494 (s_X12_isNoLess ht.2.2.2.2.2.2.2.2.2.2.2.2.2.2.2.2.2.2.2.2.2.2.2.2.2.2.1 hp2 G hc (by omega)) rfl (Nat.le_of_ble_eq_true rfl) (fun _ _ _ q => q.elim) ?_
      rintro _ _ ⟨rfl, rfl⟩
      refine V_if_ne (tgt := 97) dX12_divides_91 (by decide) (fun c => ?_) (fun c => ?_)
      · replace hF := (if_neg c).symm.trans hF
        refine V_aload_n dX12_divides_97 rfl ?_
        refine X_gC G dX12_divides_98 fX12_109 ht.1 rfl ?_
        refine V_aload_n dX12_divides_101 rfl ?_
        refine X_gC G dX12_divides_102 fX12_112 ht.1 rfl ?_
        obtain ⟨y6, hc, hF⟩ := bd hF
        refine V_callS dX12_divides_105 kX12_484 (s_X12_adds ht.2.2.2.2.2.2.2.2.2.2.2.2.2.2.2.2.2.2.2.2.2.2.2.2.2.2.1 ht.2.2.2.2.2.2.2.2.2.2.2.2.2.2.2.2.2.2.2.2.2.2.2.2.2.2.2.1 G hc (by omega)) rfl (Nat.le_of_ble_eq_true rfl) (fun _ _ _ q => q.elim) ?_
        rintro _ _ ⟨rfl, rfl⟩
        refine V_aload_n dX12_divides_108 rfl ?_
        refine X_gC G dX12_divides_109 fX12_106 ht.1 rfl ?_
        refine V_iconst (v := 0) dX12_divides_112 (by decide) ?_
        refine V_dup2 dX12_divides_113 rfl rfl ?_
        obtain ⟨hz, hF⟩ := gv_out hF
        refine X_iald dX12_divides_114 ht.2.2.2.2.2.2.2.2.2.2.2.2.2.2.2.2.2.2.2.2.2.2.2.2.2.1 hz ?_
        refine V_iconst (v := 1) dX12_divides_115 (by decide) ?_
        refine V_ior dX12_divides_116 ?_
        obtain ⟨hz, hF⟩ := gv_out hF
        refine X_iast dX12_divides_117 ht.2.2.2.2.2.2.2.2.2.2.2.2.2.2.2.2.2.2.2.2.2.2.2.2.2.1 hz ?_
        obtain ⟨S7, qS7, hF⟩ := bnd_g hF
        refine V_eqS qS7 ?_
        obtain ⟨x8, qx8, hF⟩ := bnd_g hF
        refine B_iinc (v := -1) qx8 dX12_divides_118 rfl (by decide) (by decide) ?_
        refine V_goto (tgt := 35) dX12_divides_121 (by decide) ?_
        exact V_lv' (ih _ _ hF) (v_all_c rfl (v_all_c rfl (v_all_c rfl (v_all_c rfl v_all_n))))
      · replace hF := (if_pos c).symm.trans hF
        refine V_goto (tgt := 118) dX12_divides_94 (by decide) ?_
        obtain ⟨x9, qx9, hF⟩ := bnd_g hF
        refine B_iinc (v := -1) qx9 dX12_divides_118 rfl (by decide) (by decide) ?_
        refine V_goto (tgt := 35) dX12_divides_121 (by decide) ?_
        exact V_lv' (ih _ _ hF) (v_all_c rfl (v_all_c rfl (v_all_c rfl (v_all_c rfl v_all_n))))
set_option maxRecDepth 100000 in
set_option maxHeartbeats 4000000 in
theorem s_X12_divides {l : Launch} {s0 : State} {D : va_G} {a0 : Array Value} {sh : List Sh} {f : Nat} {S : St} {t : Nat} {p1 n1 : Nat} {p2 n2 : Nat} (ht : isX12 sh t) (hp1 : sh[p1]? = some (.inl (.int, n1))) (hp2 : sh[p2]? = some (.inl (.int, n2))) {r : St} (G : GC l s0 D a0) (hF : F_X12_divides sh f S t p1 n1 p2 n2 = some r) {d : Nat} (hd : 2 ≤ d) : Sp l s0 D d 0 0 mX12_divides (fun v h => v = none ∧ h = wd s0.heap.size sh r) v_noX [.ref (s0.heap.size + t), .ref (s0.heap.size + p1), .ref (s0.heap.size + p2)] (wd s0.heap.size sh S) := by
  obtain ⟨d, rfl⟩ : ∃ e, d = e + 1 := ⟨d - 1, by omega⟩
  refine Sp.of (by decide +kernel) rfl (Nat.le_of_ble_eq_true rfl) ?_
  unfold F_X12_divides at hF
  refine V_aload_n dX12_divides_0 rfl ?_
  refine X_gC G dX12_divides_1 fX12_106 ht.1 rfl ?_
  refine V_iconst (v := 0) dX12_divides_4 (by decide) ?_
  obtain ⟨y1, hc, hF⟩ := bd hF
  refine V_callS dX12_divides_5 kX12_501 (s_X12_set ht.2.2.2.2.2.2.2.2.2.2.2.2.2.2.2.2.2.2.2.2.2.2.2.2.2.1 G hc (by omega)) rfl (Nat.le_of_ble_eq_true rfl) (fun _ _ _ q => q.elim) ?_
  rintro _ _ ⟨rfl, rfl⟩
  refine V_aload_n dX12_divides_8 rfl ?_
  refine X_gC G dX12_divides_9 fX12_109 ht.1 rfl ?_
  refine V_iconst (v := 0) dX12_divides_12 (by decide) ?_
  obtain ⟨y2, hc, hF⟩ := bd hF
  refine V_callS dX12_divides_13 kX12_501 (s_X12_set ht.2.2.2.2.2.2.2.2.2.2.2.2.2.2.2.2.2.2.2.2.2.2.2.2.2.2.1 G hc (by omega)) rfl (Nat.le_of_ble_eq_true rfl) (fun _ _ _ q => q.elim) ?_
  rintro _ _ ⟨rfl, rfl⟩
  refine V_aload_n dX12_divides_16 rfl ?_
  refine X_gC G dX12_divides_17 fX12_112 ht.1 rfl ?_
  refine V_aload_n dX12_divides_20 rfl ?_
  obtain ⟨y3, hc, hF⟩ := bd hF
  refine V_callS dX12_divides_21 kX12_480 (s_X12_copies ht.2.2.2.2.2.2.2.2.2.2.2.2.2.2.2.2.2.2.2.2.2.2.2.2.2.2.2.1 hp2 G hc (by omega)) rfl (Nat.le_of_ble_eq_true rfl) (fun _ _ _ q => q.elim) ?_
  rintro _ _ ⟨rfl, rfl⟩
  refine V_aload_n dX12_divides_24 rfl ?_
  refine X_gC G dX12_divides_25 fX12_112 ht.1 rfl ?_
  obtain ⟨y4, hc, hF⟩ := bd hF
  refine V_callS dX12_divides_28 kX12_476 (s_X12_turns ht.2.2.2.2.2.2.2.2.2.2.2.2.2.2.2.2.2.2.2.2.2.2.2.2.2.2.2.1 G hc (by omega)) rfl (Nat.le_of_ble_eq_true rfl) (fun _ _ _ q => q.elim) ?_
  rintro _ _ ⟨rfl, rfl⟩
  refine V_sipush (v := 511) dX12_divides_31 (by decide) ?_
  refine V_istore_n dX12_divides_34 (by decide) ?_
  exact V_lv' (w_X12_divides_L35 ht hp1 hp2 G hd f _ _ hF) (v_all_c rfl (v_all_c rfl (v_all_c rfl (v_all_c rfl v_all_n))))
set_option maxRecDepth 100000 in
set_option maxHeartbeats 4000000 in
theorem w_X12_lowers_L27 {l : Launch} {s0 : State} {D : va_G} {a0 : Array Value} {sh : List Sh} {f : Nat} {t : Nat} (ht : isX12 sh t) {r : St} {d : Nat} (G : GC l s0 D a0) (hd : 4 ≤ d + 1) : ∀ (S : St) (l1 : Int32), F_X12_lowers_L27 sh f t S l1 = some r → V l s0 D (d + 1) 0 0 mX12_lowers (fun v h => v = none ∧ h = wd s0.heap.size sh r) v_noX 27 [(0, .ref (s0.heap.size + t)), (1, .int l1)] [] (wd s0.heap.size sh S) := by
  intro S l1 hF
  unfold F_X12_lowers_L27 at hF
  refine V_aload_n dX12_lowers_27 rfl ?_
  refine X_gC G dX12_lowers_28 fX12_100 ht.1 rfl ?_
  refine V_aload_n dX12_lowers_31 rfl ?_
  refine X_gC G dX12_lowers_32 fX12_94 ht.1 rfl ?_
  obtain ⟨y1, hc, hF⟩ := bd hF
  refine V_callS dX12_lowers_35 kX12_480 (s_X12_copies ht.2.2.2.2.2.2.2.2.2.2.2.2.2.2.2.2.2.2.2.2.2.2.2.1 ht.2.2.2.2.2.2.2.2.2.2.2.2.2.2.2.2.2.2.2.2.2.1 G hc (by omega)) rfl (Nat.le_of_ble_eq_true rfl) (fun _ _ _ q => q.elim) ?_
  rintro _ _ ⟨rfl, rfl⟩
  refine V_aload_n dX12_lowers_38 rfl ?_
  refine X_gC G dX12_lowers_39 fX12_103 ht.1 rfl ?_
  refine V_aload_n dX12_lowers_42 rfl ?_
  refine X_gC G dX12_lowers_43 fX12_97 ht.1 rfl ?_
  obtain ⟨y2, hc, hF⟩ := bd hF
  refine V_callS dX12_lowers_46 kX12_480 (s_X12_copies ht.2.2.2.2.2.2.2.2.2.2.2.2.2.2.2.2.2.2.2.2.2.2.2.2.1 ht.2.2.2.2.2.2.2.2.2.2.2.2.2.2.2.2.2.2.2.2.2.2.1 G hc (by omega)) rfl (Nat.le_of_ble_eq_true rfl) (fun _ _ _ q => q.elim) ?_
  rintro _ _ ⟨rfl, rfl⟩
  refine V_aload_n dX12_lowers_49 rfl ?_
  refine V_aload_n dX12_lowers_50 rfl ?_
  refine X_gC G dX12_lowers_51 fX12_100 ht.1 rfl ?_
  refine V_aload_n dX12_lowers_54 rfl ?_
  refine X_gC G dX12_lowers_55 fX12_103 ht.1 rfl ?_
  obtain ⟨y3, hc, hF⟩ := bd hF
  refine V_callV G dX12_lowers_58 kX12_505 (wd_at ht.1) ⟨by decide, rfl⟩ (s_X12_divisor ht ht.2.2.2.2.2.2.2.2.2.2.2.2.2.2.2.2.2.2.2.2.2.2.2.1 ht.2.2.2.2.2.2.2.2.2.2.2.2.2.2.2.2.2.2.2.2.2.2.2.2.1 G hc (by omega)) rfl (Nat.le_of_ble_eq_true rfl) (fun _ _ _ q => q.elim) ?_
  rintro _ _ ⟨rfl, rfl⟩
  refine V_aload_n dX12_lowers_61 rfl ?_
  refine V_aload_n dX12_lowers_62 rfl ?_
  refine X_gC G dX12_lowers_63 fX12_94 ht.1 rfl ?_
  refine V_aload_n dX12_lowers_66 rfl ?_
  refine X_gC G dX12_lowers_67 fX12_100 ht.1 rfl ?_
  obtain ⟨y4, hc, hF⟩ := bd hF
  refine V_callV G dX12_lowers_70 kX12_508 (wd_at ht.1) ⟨by decide, rfl⟩ (s_X12_divides ht ht.2.2.2.2.2.2.2.2.2.2.2.2.2.2.2.2.2.2.2.2.2.1 ht.2.2.2.2.2.2.2.2.2.2.2.2.2.2.2.2.2.2.2.2.2.2.2.1 G hc (by omega)) rfl (Nat.le_of_ble_eq_true rfl) (fun _ _ _ q => q.elim) ?_
  rintro _ _ ⟨rfl, rfl⟩
  refine V_aload_n dX12_lowers_73 rfl ?_
  refine V_aload_n dX12_lowers_74 rfl ?_
  refine X_gC G dX12_lowers_75 fX12_97 ht.1 rfl ?_
  refine V_aload_n dX12_lowers_78 rfl ?_
  refine X_gC G dX12_lowers_79 fX12_100 ht.1 rfl ?_
  obtain ⟨y5, hc, hF⟩ := bd hF
  refine V_callV G dX12_lowers_82 kX12_508 (wd_at ht.1) ⟨by decide, rfl⟩ (s_X12_divides ht ht.2.2.2.2.2.2.2.2.2.2.2.2.2.2.2.2.2.2.2.2.2.2.1 ht.2.2.2.2.2.2.2.2.2.2.2.2.2.2.2.2.2.2.2.2.2.2.2.1 G hc (by omega)) rfl (Nat.le_of_ble_eq_true rfl) (fun _ _ _ q => q.elim) ?_
  rintro _ _ ⟨rfl, rfl⟩
  refine V_iload_n dX12_lowers_85 rfl ?_
  refine V_if_eq (tgt := 96) dX12_lowers_86 (by decide) (fun c => ?_) (fun c => ?_)
  · replace hF := (if_pos c).symm.trans hF
    cases hF
    exact V_return dX12_lowers_96 rfl ⟨rfl, rfl⟩
  · replace hF := (if_neg c).symm.trans hF
    refine V_aload_n dX12_lowers_89 rfl ?_
    refine X_gC G dX12_lowers_90 fX12_94 ht.1 rfl ?_
    obtain ⟨y6, hc, hF⟩ := bd hF
    refine V_callS dX12_lowers_93 kX12_476 (s_X12_turns ht.2.2.2.2.2.2.2.2.2.2.2.2.2.2.2.2.2.2.2.2.2.1 G hc (by omega)) rfl (Nat.le_of_ble_eq_true rfl) (fun _ _ _ q => q.elim) ?_
    rintro _ _ ⟨rfl, rfl⟩
    cases hF
    exact V_return dX12_lowers_96 rfl ⟨rfl, rfl⟩
set_option maxRecDepth 100000 in
set_option maxHeartbeats 4000000 in
theorem w_X12_lowers_L15 {l : Launch} {s0 : State} {D : va_G} {a0 : Array Value} {sh : List Sh} {f : Nat} {t : Nat} (ht : isX12 sh t) {r : St} {d : Nat} (G : GC l s0 D a0) (hd : 4 ≤ d + 1) : ∀ (S : St) (v0 : Int32), F_X12_lowers_L15 sh f t S v0 = some r → V l s0 D (d + 1) 0 0 mX12_lowers (fun v h => v = none ∧ h = wd s0.heap.size sh r) v_noX 15 [(0, .ref (s0.heap.size + t))] [.int v0] (wd s0.heap.size sh S) := by
  intro S v0 hF
  unfold F_X12_lowers_L15 at hF
  refine V_istore_n dX12_lowers_15 (by decide) ?_
  refine V_iload_n dX12_lowers_16 rfl ?_
  refine V_if_eq (tgt := 27) dX12_lowers_17 (by decide) (fun c => ?_) (fun c => ?_)
  · replace hF := (if_pos c).symm.trans hF
    exact V_lv' (w_X12_lowers_L27 ht G hd _ _ hF) (v_all_c rfl (v_all_c rfl v_all_n))
  · replace hF := (if_neg c).symm.trans hF
    refine V_aload_n dX12_lowers_20 rfl ?_
    refine X_gC G dX12_lowers_21 fX12_94 ht.1 rfl ?_
    obtain ⟨y1, hc, hF⟩ := bd hF
    refine V_callS dX12_lowers_24 kX12_476 (s_X12_turns ht.2.2.2.2.2.2.2.2.2.2.2.2.2.2.2.2.2.2.2.2.2.1 G hc (by omega)) rfl (Nat.le_of_ble_eq_true rfl) (fun _ _ _ q => q.elim) ?_
    rintro _ _ ⟨rfl, rfl⟩
    exact V_lv' (w_X12_lowers_L27 ht G hd _ _ hF) (v_all_c rfl (v_all_c rfl v_all_n))
set_option maxRecDepth 100000 in
set_option maxHeartbeats 4000000 in
theorem s_X12_lowers {l : Launch} {s0 : State} {D : va_G} {a0 : Array Value} {sh : List Sh} {f : Nat} {S : St} {t : Nat} (ht : isX12 sh t) {r : St} (G : GC l s0 D a0) (hF : F_X12_lowers sh f S t = some r) {d : Nat} (hd : 4 ≤ d) : Sp l s0 D d 0 0 mX12_lowers (fun v h => v = none ∧ h = wd s0.heap.size sh r) v_noX [.ref (s0.heap.size + t)] (wd s0.heap.size sh S) := by
  obtain ⟨d, rfl⟩ : ∃ e, d = e + 1 := ⟨d - 1, by omega⟩
  refine Sp.of (by decide +kernel) rfl (Nat.le_of_ble_eq_true rfl) ?_
  unfold F_X12_lowers at hF
  refine V_aload_n dX12_lowers_0 rfl ?_
  refine X_gC G dX12_lowers_1 fX12_94 ht.1 rfl ?_
  refine V_bipush (v := 15) dX12_lowers_4 (by decide) ?_
  obtain ⟨hz, hF⟩ := gv_out hF
  refine X_iald dX12_lowers_6 ht.2.2.2.2.2.2.2.2.2.2.2.2.2.2.2.2.2.2.2.2.2.1 hz ?_
  refine V_if_ge (tgt := 14) dX12_lowers_7 (by decide) (fun c => ?_) (fun c => ?_)
  · replace hF := (if_pos c).symm.trans hF
    refine V_iconst (v := 0) dX12_lowers_14 (by decide) ?_
    exact V_lv' (w_X12_lowers_L15 ht G hd _ _ hF) (v_all_c rfl v_all_n)
  · replace hF := (if_neg c).symm.trans hF
    refine V_iconst (v := 1) dX12_lowers_10 (by decide) ?_
    refine V_goto (tgt := 15) dX12_lowers_11 (by decide) ?_
    exact V_lv' (w_X12_lowers_L15 ht G hd _ _ hF) (v_all_c rfl v_all_n)
set_option maxRecDepth 100000 in
set_option maxHeartbeats 4000000 in
theorem s_X12_longOf {l : Launch} {s0 : State} {D : va_G} {a0 : Array Value} {sh : List Sh} {f : Nat} {S : St} {p0 n0 : Nat} (hp0 : sh[p0]? = some (.inl (.int, n0))) {r : Int64} (G : GC l s0 D a0) (hF : F_X12_longOf sh f S p0 n0 = some r) {d : Nat} (hd : 1 ≤ d) : Sp l s0 D d 0 0 mX12_longOf (fun v h => v = some (.long r) ∧ h = wd s0.heap.size sh S) v_noX [.ref (s0.heap.size + p0)] (wd s0.heap.size sh S) := by
  obtain ⟨d, rfl⟩ : ∃ e, d = e + 1 := ⟨d - 1, by omega⟩
  refine Sp.of (by decide +kernel) rfl (Nat.le_of_ble_eq_true rfl) ?_
  unfold F_X12_longOf at hF
  refine V_aload_n dX12_longOf_0 rfl ?_
  refine V_iconst (v := 1) dX12_longOf_1 (by decide) ?_
  obtain ⟨hz, hF⟩ := gv_out hF
  refine X_iald dX12_longOf_2 hp0 hz ?_
  refine V_i2l dX12_longOf_3 ?_
  refine V_bipush (v := 32) dX12_longOf_4 (by decide) ?_
  refine V_lshl dX12_longOf_6 ?_
  refine V_aload_n dX12_longOf_7 rfl ?_
  refine V_iconst (v := 0) dX12_longOf_8 (by decide) ?_
  obtain ⟨hz, hF⟩ := gv_out hF
  refine X_iald dX12_longOf_9 hp0 hz ?_
  refine V_i2l dX12_longOf_10 ?_
  refine V_ldc2 dX12_longOf_11 qX12_470 ?_
  refine V_land dX12_longOf_14 ?_
  refine V_lor dX12_longOf_15 ?_
  cases hF
  exact V_lreturn dX12_longOf_16 rfl ⟨rfl, rfl⟩
set_option maxRecDepth 100000 in
set_option maxHeartbeats 4000000 in
theorem w_X12_isBeyond_L4 {l : Launch} {s0 : State} {D : va_G} {a0 : Array Value} {sh : List Sh} {f : Nat} {S : St} {t : Nat} {p1 n1 : Nat} (ht : isX12 sh t) (hp1 : sh[p1]? = some (.inl (.int, n1))) {r : Int32} {d : Nat} (G : GC l s0 D a0) (hd : 2 ≤ d + 1) : ∀ (n : Nat) (l2 : Int32) (l3 : Int32), F_X12_isBeyond_L4 sh f S t p1 n1 n l2 l3 = some r → V l s0 D (d + 1) 0 0 mX12_isBeyond (fun v h => v = some (.int r) ∧ h = wd s0.heap.size sh S) v_noX 4 [(1, .ref (s0.heap.size + p1)), (2, .int l2), (3, .int l3)] [] (wd s0.heap.size sh S) := by
  intro n
  induction n with
  | zero => intro l2 l3 hF; cases hF
  | succ n ih =>
    intro l2 l3 hF
    unfold F_X12_isBeyond_L4 at hF
    refine V_iload_n dX12_isBeyond_4 rfl ?_
    refine V_bipush (v := 16) dX12_isBeyond_5 (by decide) ?_
    refine V_icmp_ge (tgt := 32) dX12_isBeyond_7 (by decide) (fun c => ?_) (fun c => ?_)
    · replace hF := (if_pos c).symm.trans hF
      refine V_iload_n dX12_isBeyond_32 rfl ?_
      refine V_if_ne (tgt := 53) dX12_isBeyond_33 (by decide) (fun c => ?_) (fun c => ?_)
      · replace hF := (if_neg c).symm.trans hF
        refine V_iconst (v := 1) dX12_isBeyond_53 (by decide) ?_
        refine V_goto (tgt := 58) dX12_isBeyond_54 (by decide) ?_
        cases hF
        exact V_ireturn dX12_isBeyond_58 rfl (by decide) ⟨rfl, rfl⟩
      · replace hF := (if_pos c).symm.trans hF
        refine V_aload_n dX12_isBeyond_36 rfl ?_
        refine V_iconst (v := 1) dX12_isBeyond_37 (by decide) ?_
        obtain ⟨hz, hF⟩ := gv_out hF
        refine X_iald dX12_isBeyond_38 hp1 hz ?_
        refine V_if_lt (tgt := 53) dX12_isBeyond_39 (by decide) (fun c => ?_) (fun c => ?_)
        · replace hF := (if_pos c).symm.trans hF
          refine V_iconst (v := 1) dX12_isBeyond_53 (by decide) ?_
          refine V_goto (tgt := 58) dX12_isBeyond_54 (by decide) ?_
          cases hF
          exact V_ireturn dX12_isBeyond_58 rfl (by decide) ⟨rfl, rfl⟩
        · replace hF := (if_neg c).symm.trans hF
          refine V_aload_n dX12_isBeyond_42 rfl ?_
          obtain ⟨y1, hc, hF⟩ := bd hF
          refine V_callS dX12_isBeyond_43 kX12_511 (s_X12_longOf hp1 G hc (by omega)) rfl (Nat.le_of_ble_eq_true rfl) (fun _ _ _ q => q.elim) ?_
          rintro _ _ ⟨rfl, rfl⟩
          refine V_ldc2 dX12_isBeyond_46 qX12_515 ?_
          refine V_lcmp dX12_isBeyond_49 ?_
          refine V_if_le (tgt := 57) dX12_isBeyond_50 (by decide) (fun c => ?_) (fun c => ?_)
          · replace hF := (if_pos c).symm.trans hF
            refine V_iconst (v := 0) dX12_isBeyond_57 (by decide) ?_
            cases hF
            exact V_ireturn dX12_isBeyond_58 rfl (by decide) ⟨rfl, rfl⟩
          · replace hF := (if_neg c).symm.trans hF
            refine V_iconst (v := 1) dX12_isBeyond_53 (by decide) ?_
            refine V_goto (tgt := 58) dX12_isBeyond_54 (by decide) ?_
            cases hF
            exact V_ireturn dX12_isBeyond_58 rfl (by decide) ⟨rfl, rfl⟩
    · replace hF := (if_neg c).symm.trans hF
      refine V_iload_n dX12_isBeyond_10 rfl ?_
      refine V_if_ne (tgt := 20) dX12_isBeyond_11 (by decide) (fun c => ?_) (fun c => ?_)
      · replace hF := (if_neg c).symm.trans hF
        refine V_iconst (v := 1) dX12_isBeyond_20 (by decide) ?_
        refine V_goto (tgt := 25) dX12_isBeyond_21 (by decide) ?_
        refine V_istore_n dX12_isBeyond_25 (by decide) ?_
        obtain ⟨x2, qx2, hF⟩ := bnd_g hF
        refine B_iinc (v := 1) qx2 dX12_isBeyond_26 rfl (by decide) (by decide) ?_
        refine V_goto (tgt := 4) dX12_isBeyond_29 (by decide) ?_
        exact V_lv' (ih _ _ hF) (v_all_c rfl (v_all_c rfl (v_all_c rfl v_all_n)))
      · replace hF := (if_pos c).symm.trans hF
        refine V_aload_n dX12_isBeyond_14 rfl ?_
        refine V_iload_n dX12_isBeyond_15 rfl ?_
        obtain ⟨hz, hF⟩ := gv_out hF
        refine X_iald dX12_isBeyond_16 hp1 hz ?_
        refine V_if_eq (tgt := 24) dX12_isBeyond_17 (by decide) (fun c => ?_) (fun c => ?_)
        · replace hF := (if_pos c).symm.trans hF
          refine V_iconst (v := 0) dX12_isBeyond_24 (by decide) ?_
          refine V_istore_n dX12_isBeyond_25 (by decide) ?_
          obtain ⟨x3, qx3, hF⟩ := bnd_g hF
          refine B_iinc (v := 1) qx3 dX12_isBeyond_26 rfl (by decide) (by decide) ?_
          refine V_goto (tgt := 4) dX12_isBeyond_29 (by decide) ?_
          exact V_lv' (ih _ _ hF) (v_all_c rfl (v_all_c rfl (v_all_c rfl v_all_n)))
        · replace hF := (if_neg c).symm.trans hF
          refine V_iconst (v := 1) dX12_isBeyond_20 (by decide) ?_
          refine V_goto (tgt := 25) dX12_isBeyond_21 (by decide) ?_
          refine V_istore_n dX12_isBeyond_25 (by decide) ?_
          obtain ⟨x4, qx4, hF⟩ := bnd_g hF
          refine B_iinc (v := 1) qx4 dX12_isBeyond_26 rfl (by decide) (by decide) ?_
          refine V_goto (tgt := 4) dX12_isBeyond_29 (by decide) ?_
          exact V_lv' (ih _ _ hF) (v_all_c rfl (v_all_c rfl (v_all_c rfl v_all_n)))
set_option maxRecDepth 100000 in
set_option maxHeartbeats 4000000 in
theorem s_X12_isBeyond {l : Launch} {s0 : State} {D : va_G} {a0 : Array Value} {sh : List Sh} {f : Nat} {S : St} {t : Nat} {p1 n1 : Nat} (ht : isX12 sh t) (hp1 : sh[p1]? = some (.inl (.int, n1))) {r : Int32} (G : GC l s0 D a0) (hF : F_X12_isBeyond sh f S t p1 n1 = some r) {d : Nat} (hd : 2 ≤ d) : Sp l s0 D d 0 0 mX12_isBeyond (fun v h => v = some (.int r) ∧ h = wd s0.heap.size sh S) v_noX [.ref (s0.heap.size + t), .ref (s0.heap.size + p1)] (wd s0.heap.size sh S) := by
  obtain ⟨d, rfl⟩ : ∃ e, d = e + 1 := ⟨d - 1, by omega⟩
  refine Sp.of (by decide +kernel) rfl (Nat.le_of_ble_eq_true rfl) ?_
  unfold F_X12_isBeyond at hF
  refine V_iconst (v := 0) dX12_isBeyond_0 (by decide) ?_
  refine V_istore_n dX12_isBeyond_1 (by decide) ?_
  refine V_iconst (v := 2) dX12_isBeyond_2 (by decide) ?_
  refine V_istore_n dX12_isBeyond_3 (by decide) ?_
  exact V_lv' (w_X12_isBeyond_L4 ht hp1 G hd f _ _ hF) (v_all_c rfl (v_all_c rfl (v_all_c rfl v_all_n)))
set_option maxRecDepth 100000 in
set_option maxHeartbeats 4000000 in
theorem w_X12_told_L27 {l : Launch} {s0 : State} {D : va_G} {a0 : Array Value} {sh : List Sh} {f : Nat} {t : Nat} {p1 : Int32} (ht : isX12 sh t) {r : Int64 × St} {d : Nat} (G : GC l s0 D a0) (hd : 3 ≤ d + 1) : ∀ (S : St) (l2 : Int32), F_X12_told_L27 sh f t p1 S l2 = some r → V l s0 D (d + 1) 0 0 mX12_told (fun v h => v = some (.long r.1) ∧ h = wd s0.heap.size sh r.2) v_noX 27 [(0, .ref (s0.heap.size + t)), (1, .int p1), (2, .int l2)] [] (wd s0.heap.size sh S) := by
  intro S l2 hF
  unfold F_X12_told_L27 at hF
  refine V_aload_n dX12_told_27 rfl ?_
  refine V_aload_n dX12_told_28 rfl ?_
  refine X_gC G dX12_told_29 fX12_94 ht.1 rfl ?_
  obtain ⟨y1, hc, hF⟩ := bd hF
  refine V_callV G dX12_told_32 kX12_517 (wd_at ht.1) ⟨by decide, rfl⟩ (s_X12_isBeyond ht ht.2.2.2.2.2.2.2.2.2.2.2.2.2.2.2.2.2.2.2.2.2.1 G hc (by omega)) rfl (Nat.le_of_ble_eq_true rfl) (fun _ _ _ q => q.elim) ?_
  rintro _ _ ⟨rfl, rfl⟩
  refine V_if_ne (tgt := 49) dX12_told_35 (by decide) (fun c => ?_) (fun c => ?_)
  · replace hF := (if_neg c).symm.trans hF
    refine V_ldc2 dX12_told_49 qX12_129 ?_
    cases hF
    exact V_lreturn dX12_told_52 rfl ⟨rfl, rfl⟩
  · replace hF := (if_pos c).symm.trans hF
    refine V_aload_n dX12_told_38 rfl ?_
    refine V_aload_n dX12_told_39 rfl ?_
    refine X_gC G dX12_told_40 fX12_97 ht.1 rfl ?_
    obtain ⟨y2, hc, hF⟩ := bd hF
    refine V_callV G dX12_told_43 kX12_517 (wd_at ht.1) ⟨by decide, rfl⟩ (s_X12_isBeyond ht ht.2.2.2.2.2.2.2.2.2.2.2.2.2.2.2.2.2.2.2.2.2.2.1 G hc (by omega)) rfl (Nat.le_of_ble_eq_true rfl) (fun _ _ _ q => q.elim) ?_
    rintro _ _ ⟨rfl, rfl⟩
    refine V_if_eq (tgt := 53) dX12_told_46 (by decide) (fun c => ?_) (fun c => ?_)
    · replace hF := (if_pos c).symm.trans hF
      refine V_iload_n dX12_told_53 rfl ?_
      refine V_if_eq (tgt := 67) dX12_told_54 (by decide) (fun c => ?_) (fun c => ?_)
      · replace hF := (if_pos c).symm.trans hF
        refine V_iload_n dX12_told_67 rfl ?_
        refine V_if_eq (tgt := 82) dX12_told_68 (by decide) (fun c => ?_) (fun c => ?_)
        · replace hF := (if_pos c).symm.trans hF
          refine V_aload_n dX12_told_82 rfl ?_
          refine X_gC G dX12_told_83 fX12_94 ht.1 rfl ?_
          obtain ⟨y3, hc, hF⟩ := bd hF
          refine V_callS dX12_told_86 kX12_511 (s_X12_longOf ht.2.2.2.2.2.2.2.2.2.2.2.2.2.2.2.2.2.2.2.2.2.1 G hc (by omega)) rfl (Nat.le_of_ble_eq_true rfl) (fun _ _ _ q => q.elim) ?_
          rintro _ _ ⟨rfl, rfl⟩
          cases hF
          exact V_lreturn dX12_told_89 rfl ⟨rfl, rfl⟩
        · replace hF := (if_neg c).symm.trans hF
          refine V_aload_n dX12_told_71 rfl ?_
          refine X_gC G dX12_told_72 fX12_94 ht.1 rfl ?_
          obtain ⟨y4, hc, hF⟩ := bd hF
          refine V_callS dX12_told_75 kX12_511 (s_X12_longOf ht.2.2.2.2.2.2.2.2.2.2.2.2.2.2.2.2.2.2.2.2.2.1 G hc (by omega)) rfl (Nat.le_of_ble_eq_true rfl) (fun _ _ _ q => q.elim) ?_
          rintro _ _ ⟨rfl, rfl⟩
          refine V_lneg dX12_told_78 ?_
          refine V_goto (tgt := 89) dX12_told_79 (by decide) ?_
          cases hF
          exact V_lreturn dX12_told_89 rfl ⟨rfl, rfl⟩
      · replace hF := (if_neg c).symm.trans hF
        refine V_aload_n dX12_told_57 rfl ?_
        refine X_gC G dX12_told_58 fX12_97 ht.1 rfl ?_
        obtain ⟨y5, hc, hF⟩ := bd hF
        refine V_callS dX12_told_61 kX12_511 (s_X12_longOf ht.2.2.2.2.2.2.2.2.2.2.2.2.2.2.2.2.2.2.2.2.2.2.1 G hc (by omega)) rfl (Nat.le_of_ble_eq_true rfl) (fun _ _ _ q => q.elim) ?_
        rintro _ _ ⟨rfl, rfl⟩
        refine V_goto (tgt := 89) dX12_told_64 (by decide) ?_
        cases hF
        exact V_lreturn dX12_told_89 rfl ⟨rfl, rfl⟩
    · replace hF := (if_neg c).symm.trans hF
      refine V_ldc2 dX12_told_49 qX12_129 ?_
      cases hF
      exact V_lreturn dX12_told_52 rfl ⟨rfl, rfl⟩
set_option maxRecDepth 100000 in
set_option maxHeartbeats 4000000 in
theorem w_X12_told_L15 {l : Launch} {s0 : State} {D : va_G} {a0 : Array Value} {sh : List Sh} {f : Nat} {t : Nat} {p1 : Int32} (ht : isX12 sh t) {r : Int64 × St} {d : Nat} (G : GC l s0 D a0) (hd : 3 ≤ d + 1) : ∀ (S : St) (v0 : Int32), F_X12_told_L15 sh f t p1 S v0 = some r → V l s0 D (d + 1) 0 0 mX12_told (fun v h => v = some (.long r.1) ∧ h = wd s0.heap.size sh r.2) v_noX 15 [(0, .ref (s0.heap.size + t)), (1, .int p1)] [.int v0] (wd s0.heap.size sh S) := by
  intro S v0 hF
  unfold F_X12_told_L15 at hF
  refine V_istore_n dX12_told_15 (by decide) ?_
  refine V_iload_n dX12_told_16 rfl ?_
  refine V_if_eq (tgt := 27) dX12_told_17 (by decide) (fun c => ?_) (fun c => ?_)
  · replace hF := (if_pos c).symm.trans hF
    exact V_lv' (w_X12_told_L27 ht G hd _ _ hF) (v_all_c rfl (v_all_c rfl (v_all_c rfl v_all_n)))
  · replace hF := (if_neg c).symm.trans hF
    refine V_aload_n dX12_told_20 rfl ?_
    refine X_gC G dX12_told_21 fX12_94 ht.1 rfl ?_
    obtain ⟨y1, hc, hF⟩ := bd hF
    refine V_callS dX12_told_24 kX12_476 (s_X12_turns ht.2.2.2.2.2.2.2.2.2.2.2.2.2.2.2.2.2.2.2.2.2.1 G hc (by omega)) rfl (Nat.le_of_ble_eq_true rfl) (fun _ _ _ q => q.elim) ?_
    rintro _ _ ⟨rfl, rfl⟩
    exact V_lv' (w_X12_told_L27 ht G hd _ _ hF) (v_all_c rfl (v_all_c rfl (v_all_c rfl v_all_n)))
set_option maxRecDepth 100000 in
set_option maxHeartbeats 4000000 in
theorem s_X12_told {l : Launch} {s0 : State} {D : va_G} {a0 : Array Value} {sh : List Sh} {f : Nat} {S : St} {t : Nat} {p1 : Int32} (ht : isX12 sh t) {r : Int64 × St} (G : GC l s0 D a0) (hF : F_X12_told sh f S t p1 = some r) {d : Nat} (hd : 3 ≤ d) : Sp l s0 D d 0 0 mX12_told (fun v h => v = some (.long r.1) ∧ h = wd s0.heap.size sh r.2) v_noX [.ref (s0.heap.size + t), .int p1] (wd s0.heap.size sh S) := by
  obtain ⟨d, rfl⟩ : ∃ e, d = e + 1 := ⟨d - 1, by omega⟩
  refine Sp.of (by decide +kernel) rfl (Nat.le_of_ble_eq_true rfl) ?_
  unfold F_X12_told at hF
  refine V_aload_n dX12_told_0 rfl ?_
  refine X_gC G dX12_told_1 fX12_94 ht.1 rfl ?_
  refine V_bipush (v := 15) dX12_told_4 (by decide) ?_
  obtain ⟨hz, hF⟩ := gv_out hF
  refine X_iald dX12_told_6 ht.2.2.2.2.2.2.2.2.2.2.2.2.2.2.2.2.2.2.2.2.2.1 hz ?_
  refine V_if_ge (tgt := 14) dX12_told_7 (by decide) (fun c => ?_) (fun c => ?_)
  · replace hF := (if_pos c).symm.trans hF
    refine V_iconst (v := 0) dX12_told_14 (by decide) ?_
    exact V_lv' (w_X12_told_L15 ht G hd _ _ hF) (v_all_c rfl (v_all_c rfl v_all_n))
  · replace hF := (if_neg c).symm.trans hF
    refine V_iconst (v := 1) dX12_told_10 (by decide) ?_
    refine V_goto (tgt := 15) dX12_told_11 (by decide) ?_
    exact V_lv' (w_X12_told_L15 ht G hd _ _ hF) (v_all_c rfl (v_all_c rfl v_all_n))
set_option maxRecDepth 100000 in
set_option maxHeartbeats 4000000 in
theorem w_X12_hasPowers_L26 {l : Launch} {s0 : State} {D : va_G} {a0 : Array Value} {sh : List Sh} {f : Nat} {t : Nat} {p1 : Nat} {p2 : Int32} {p3 : Int32} {p4 : Int32} {p5 : Int32} (ht : isX12 sh t) (hp1 : isX10 sh p1) {r : Int32 × St} {d : Nat} (G : GC l s0 D a0) (hd : 1 ≤ d + 1) : ∀ (n : Nat) (S : St) (l6 : Int32), F_X12_hasPowers_L26 sh f t p1 p2 p3 p4 p5 n S l6 = some r → V l s0 D (d + 1) 0 0 mX12_hasPowers (fun v h => v = some (.int r.1) ∧ h = wd s0.heap.size sh r.2) v_noX 26 [(0, .ref (s0.heap.size + t)), (1, .ref (s0.heap.size + p1)), (2, .int p2), (3, .int p3), (4, .int p4), (5, .int p5), (6, .int l6)] [] (wd s0.heap.size sh S) := by
  intro n
  induction n with
  | zero => intro S l6 hF; cases hF
  | succ n ih =>
    intro S l6 hF
    unfold F_X12_hasPowers_L26 at hF
    refine V_iload dX12_hasPowers_26 rfl ?_
    refine V_aload_n dX12_hasPowers_28 rfl ?_
    refine X_gI G dX12_hasPowers_29 fX12_339 hp1.1 rfl ?_
    refine V_icmp_ge (tgt := 69) dX12_hasPowers_32 (by decide) (fun c => ?_) (fun c => ?_)
    · replace hF := (if_pos c).symm.trans hF
      refine V_aload_n dX12_hasPowers_69 rfl ?_
      refine X_gC G dX12_hasPowers_70 fX12_115 ht.1 rfl ?_
      refine V_iconst (v := 0) dX12_hasPowers_73 (by decide) ?_
      obtain ⟨hz, hF⟩ := gv_out hF
      refine X_iald dX12_hasPowers_74 ht.2.2.2.2.2.2.2.2.2.2.2.2.2.2.2.2.2.2.2.2.2.2.2.2.2.2.2.2.1 hz ?_
      refine V_iload_n dX12_hasPowers_75 rfl ?_
      refine V_icmp_ne (tgt := 105) dX12_hasPowers_76 (by decide) (fun c => ?_) (fun c => ?_)
      · replace hF := (if_neg c).symm.trans hF
        refine V_iconst (v := 0) dX12_hasPowers_105 (by decide) ?_
        cases hF
        exact V_ireturn dX12_hasPowers_106 rfl (by decide) ⟨rfl, rfl⟩
      · replace hF := (if_pos c).symm.trans hF
        refine V_aload_n dX12_hasPowers_79 rfl ?_
        refine X_gC G dX12_hasPowers_80 fX12_115 ht.1 rfl ?_
        refine V_iconst (v := 1) dX12_hasPowers_83 (by decide) ?_
        obtain ⟨hz, hF⟩ := gv_out hF
        refine X_iald dX12_hasPowers_84 ht.2.2.2.2.2.2.2.2.2.2.2.2.2.2.2.2.2.2.2.2.2.2.2.2.2.2.2.2.1 hz ?_
        refine V_iload dX12_hasPowers_85 rfl ?_
        refine V_icmp_ne (tgt := 105) dX12_hasPowers_87 (by decide) (fun c => ?_) (fun c => ?_)
        · replace hF := (if_neg c).symm.trans hF
          refine V_iconst (v := 0) dX12_hasPowers_105 (by decide) ?_
          cases hF
          exact V_ireturn dX12_hasPowers_106 rfl (by decide) ⟨rfl, rfl⟩
        · replace hF := (if_pos c).symm.trans hF
          refine V_aload_n dX12_hasPowers_90 rfl ?_
          refine X_gC G dX12_hasPowers_91 fX12_115 ht.1 rfl ?_
          refine V_iconst (v := 2) dX12_hasPowers_94 (by decide) ?_
          obtain ⟨hz, hF⟩ := gv_out hF
          refine X_iald dX12_hasPowers_95 ht.2.2.2.2.2.2.2.2.2.2.2.2.2.2.2.2.2.2.2.2.2.2.2.2.2.2.2.2.1 hz ?_
          refine V_iload dX12_hasPowers_96 rfl ?_
          refine V_icmp_ne (tgt := 105) dX12_hasPowers_98 (by decide) (fun c => ?_) (fun c => ?_)
          · replace hF := (if_neg c).symm.trans hF
            refine V_iconst (v := 0) dX12_hasPowers_105 (by decide) ?_
            cases hF
            exact V_ireturn dX12_hasPowers_106 rfl (by decide) ⟨rfl, rfl⟩
          · replace hF := (if_pos c).symm.trans hF
            refine V_iconst (v := 1) dX12_hasPowers_101 (by decide) ?_
            refine V_goto (tgt := 106) dX12_hasPowers_102 (by decide) ?_
            cases hF
            exact V_ireturn dX12_hasPowers_106 rfl (by decide) ⟨rfl, rfl⟩
    · replace hF := (if_neg c).symm.trans hF
      refine V_aload_n dX12_hasPowers_35 rfl ?_
      refine X_gC G dX12_hasPowers_36 fX12_115 ht.1 rfl ?_
      refine V_aload_n dX12_hasPowers_39 rfl ?_
      obtain ⟨b1, hrb1, hF⟩ := bd hF
      obtain ⟨hb1, hF⟩ := gv_in hF
      replace hb1 := ckX9_ok hb1
      refine X_gR G dX12_hasPowers_40 fX12_312 ht.1 rfl hrb1 ?_
      refine X_gC G dX12_hasPowers_43 fX12_290 hb1.1 rfl ?_
      refine V_aload_n dX12_hasPowers_46 rfl ?_
      refine X_gC G dX12_hasPowers_47 fX12_407 hp1.1 rfl ?_
      refine V_iconst (v := 3) dX12_hasPowers_50 (by decide) ?_
      refine V_iload_n dX12_hasPowers_51 rfl ?_
      refine V_imul dX12_hasPowers_52 ?_
      refine V_iload dX12_hasPowers_53 rfl ?_
      refine V_iadd dX12_hasPowers_55 ?_
      obtain ⟨hz, hF⟩ := gv_out hF
      refine X_iald dX12_hasPowers_56 hp1.2.2.2.1 hz ?_
      obtain ⟨hz, hF⟩ := gv_out hF
      refine X_iald dX12_hasPowers_57 hb1.2.2.2.2.2.2.2.2.2.1 hz ?_
      refine V_dup2 dX12_hasPowers_58 rfl rfl ?_
      obtain ⟨hz, hF⟩ := gv_out hF
      refine X_iald dX12_hasPowers_59 ht.2.2.2.2.2.2.2.2.2.2.2.2.2.2.2.2.2.2.2.2.2.2.2.2.2.2.2.2.1 hz ?_
      refine V_iconst (v := 1) dX12_hasPowers_60 (by decide) ?_
      refine V_iadd dX12_hasPowers_61 ?_
      obtain ⟨hz, hF⟩ := gv_out hF
      refine X_iast dX12_hasPowers_62 ht.2.2.2.2.2.2.2.2.2.2.2.2.2.2.2.2.2.2.2.2.2.2.2.2.2.2.2.2.1 hz ?_
      obtain ⟨S2, qS2, hF⟩ := bnd_g hF
      refine V_eqS qS2 ?_
      obtain ⟨x3, qx3, hF⟩ := bnd_g hF
      refine B_iinc (v := 1) qx3 dX12_hasPowers_63 rfl (by decide) (by decide) ?_
      refine V_goto (tgt := 26) dX12_hasPowers_66 (by decide) ?_
      exact V_lv' (ih _ _ hF) (v_all_c rfl (v_all_c rfl (v_all_c rfl (v_all_c rfl (v_all_c rfl (v_all_c rfl (v_all_c rfl v_all_n)))))))
set_option maxRecDepth 100000 in
set_option maxHeartbeats 4000000 in
theorem w_X12_hasPowers_L3 {l : Launch} {s0 : State} {D : va_G} {a0 : Array Value} {sh : List Sh} {f : Nat} {t : Nat} {p1 : Nat} {p2 : Int32} {p3 : Int32} {p4 : Int32} {p5 : Int32} (ht : isX12 sh t) (hp1 : isX10 sh p1) {r : Int32 × St} {d : Nat} (G : GC l s0 D a0) (hd : 1 ≤ d + 1) : ∀ (n : Nat) (S : St) (l6 : Int32), F_X12_hasPowers_L3 sh f t p1 p2 p3 p4 p5 n S l6 = some r → V l s0 D (d + 1) 0 0 mX12_hasPowers (fun v h => v = some (.int r.1) ∧ h = wd s0.heap.size sh r.2) v_noX 3 [(0, .ref (s0.heap.size + t)), (1, .ref (s0.heap.size + p1)), (2, .int p2), (3, .int p3), (4, .int p4), (5, .int p5), (6, .int l6)] [] (wd s0.heap.size sh S) := by
  intro n
  induction n with
  | zero => intro S l6 hF; cases hF
  | succ n ih =>
    intro S l6 hF
    unfold F_X12_hasPowers_L3 at hF
    refine V_iload dX12_hasPowers_3 rfl ?_
    refine V_iconst (v := 3) dX12_hasPowers_5 (by decide) ?_
    refine V_icmp_ge (tgt := 23) dX12_hasPowers_6 (by decide) (fun c => ?_) (fun c => ?_)
    · replace hF := (if_pos c).symm.trans hF
      refine V_iconst (v := 0) dX12_hasPowers_23 (by decide) ?_
      refine V_istore dX12_hasPowers_24 (by decide) ?_
      exact V_lv' (w_X12_hasPowers_L26 ht hp1 G hd f _ _ hF) (v_all_c rfl (v_all_c rfl (v_all_c rfl (v_all_c rfl (v_all_c rfl (v_all_c rfl (v_all_c rfl v_all_n)))))))
    · replace hF := (if_neg c).symm.trans hF
      refine V_aload_n dX12_hasPowers_9 rfl ?_
      refine X_gC G dX12_hasPowers_10 fX12_115 ht.1 rfl ?_
      refine V_iload dX12_hasPowers_13 rfl ?_
      refine V_iconst (v := 0) dX12_hasPowers_15 (by decide) ?_
      obtain ⟨hz, hF⟩ := gv_out hF
      refine X_iast dX12_hasPowers_16 ht.2.2.2.2.2.2.2.2.2.2.2.2.2.2.2.2.2.2.2.2.2.2.2.2.2.2.2.2.1 hz ?_
      obtain ⟨S1, qS1, hF⟩ := bnd_g hF
      refine V_eqS qS1 ?_
      obtain ⟨x2, qx2, hF⟩ := bnd_g hF
      refine B_iinc (v := 1) qx2 dX12_hasPowers_17 rfl (by decide) (by decide) ?_
      refine V_goto (tgt := 3) dX12_hasPowers_20 (by decide) ?_
      exact V_lv' (ih _ _ hF) (v_all_c rfl (v_all_c rfl (v_all_c rfl (v_all_c rfl (v_all_c rfl (v_all_c rfl (v_all_c rfl v_all_n)))))))
set_option maxRecDepth 100000 in
set_option maxHeartbeats 4000000 in
theorem s_X12_hasPowers {l : Launch} {s0 : State} {D : va_G} {a0 : Array Value} {sh : List Sh} {f : Nat} {S : St} {t : Nat} {p1 : Nat} {p2 : Int32} {p3 : Int32} {p4 : Int32} {p5 : Int32} (ht : isX12 sh t) (hp1 : isX10 sh p1) {r : Int32 × St} (G : GC l s0 D a0) (hF : F_X12_hasPowers sh f S t p1 p2 p3 p4 p5 = some r) {d : Nat} (hd : 1 ≤ d) : Sp l s0 D d 0 0 mX12_hasPowers (fun v h => v = some (.int r.1) ∧ h = wd s0.heap.size sh r.2) v_noX [.ref (s0.heap.size + t), .ref (s0.heap.size + p1), .int p2, .int p3, .int p4, .int p5] (wd s0.heap.size sh S) := by
  obtain ⟨d, rfl⟩ : ∃ e, d = e + 1 := ⟨d - 1, by omega⟩
  refine Sp.of (by decide +kernel) rfl (Nat.le_of_ble_eq_true rfl) ?_
  unfold F_X12_hasPowers at hF
  refine V_iconst (v := 0) dX12_hasPowers_0 (by decide) ?_
  refine V_istore dX12_hasPowers_1 (by decide) ?_
  exact V_lv' (w_X12_hasPowers_L3 ht hp1 G hd f _ _ hF) (v_all_c rfl (v_all_c rfl (v_all_c rfl (v_all_c rfl (v_all_c rfl (v_all_c rfl (v_all_c rfl v_all_n)))))))
set_option maxRecDepth 100000 in
set_option maxHeartbeats 4000000 in
theorem s_X12_areOf {l : Launch} {s0 : State} {D : va_G} {a0 : Array Value} {sh : List Sh} {f : Nat} {S : St} {t : Nat} {p1 : Int32} {p2 : Int32} {p3 : Int32} (ht : isX12 sh t) {r : Int32} (G : GC l s0 D a0) (hF : F_X12_areOf sh f S t p1 p2 p3 = some r) {d : Nat} (hd : 1 ≤ d) : Sp l s0 D d 0 0 mX12_areOf (fun v h => v = some (.int r) ∧ h = wd s0.heap.size sh S) v_noX [.ref (s0.heap.size + t), .int p1, .int p2, .int p3] (wd s0.heap.size sh S) := by
  obtain ⟨d, rfl⟩ : ∃ e, d = e + 1 := ⟨d - 1, by omega⟩
  refine Sp.of (by decide +kernel) rfl (Nat.le_of_ble_eq_true rfl) ?_
  unfold F_X12_areOf at hF
  refine V_aload_n dX12_areOf_0 rfl ?_
  refine X_gI G dX12_areOf_1 fX12_318 ht.1 rfl ?_
  refine V_if_eq (tgt := 43) dX12_areOf_4 (by decide) (fun c => ?_) (fun c => ?_)
  · replace hF := (if_pos c).symm.trans hF
    refine V_iconst (v := 0) dX12_areOf_43 (by decide) ?_
    cases hF
    exact V_ireturn dX12_areOf_44 rfl (by decide) ⟨rfl, rfl⟩
  · replace hF := (if_neg c).symm.trans hF
    refine V_iload_n dX12_areOf_7 rfl ?_
    refine V_if_lt (tgt := 43) dX12_areOf_8 (by decide) (fun c => ?_) (fun c => ?_)
    · replace hF := (if_pos c).symm.trans hF
      refine V_iconst (v := 0) dX12_areOf_43 (by decide) ?_
      cases hF
      exact V_ireturn dX12_areOf_44 rfl (by decide) ⟨rfl, rfl⟩
    · replace hF := (if_neg c).symm.trans hF
      refine V_iload_n dX12_areOf_11 rfl ?_
      refine V_if_lt (tgt := 43) dX12_areOf_12 (by decide) (fun c => ?_) (fun c => ?_)
      · replace hF := (if_pos c).symm.trans hF
        refine V_iconst (v := 0) dX12_areOf_43 (by decide) ?_
        cases hF
        exact V_ireturn dX12_areOf_44 rfl (by decide) ⟨rfl, rfl⟩
      · replace hF := (if_neg c).symm.trans hF
        refine V_iload_n dX12_areOf_15 rfl ?_
        refine V_if_lt (tgt := 43) dX12_areOf_16 (by decide) (fun c => ?_) (fun c => ?_)
        · replace hF := (if_pos c).symm.trans hF
          refine V_iconst (v := 0) dX12_areOf_43 (by decide) ?_
          cases hF
          exact V_ireturn dX12_areOf_44 rfl (by decide) ⟨rfl, rfl⟩
        · replace hF := (if_neg c).symm.trans hF
          refine V_iload_n dX12_areOf_19 rfl ?_
          refine V_i2l dX12_areOf_20 ?_
          refine V_iload_n dX12_areOf_21 rfl ?_
          refine V_i2l dX12_areOf_22 ?_
          refine V_ladd dX12_areOf_23 ?_
          refine V_iload_n dX12_areOf_24 rfl ?_
          refine V_i2l dX12_areOf_25 ?_
          refine V_ladd dX12_areOf_26 ?_
          refine V_aload_n dX12_areOf_27 rfl ?_
          refine X_gC G dX12_areOf_28 fX12_47 ht.1 rfl ?_
          refine X_gI G dX12_areOf_31 fX12_339 ht.2.2.2.2.2.2.1.1 rfl ?_
          refine V_i2l dX12_areOf_34 ?_
          refine V_lcmp dX12_areOf_35 ?_
          refine V_if_ne (tgt := 43) dX12_areOf_36 (by decide) (fun c => ?_) (fun c => ?_)
          · replace hF := (if_neg c).symm.trans hF
            refine V_iconst (v := 0) dX12_areOf_43 (by decide) ?_
            cases hF
            exact V_ireturn dX12_areOf_44 rfl (by decide) ⟨rfl, rfl⟩
          · replace hF := (if_pos c).symm.trans hF
            refine V_iconst (v := 1) dX12_areOf_39 (by decide) ?_
            refine V_goto (tgt := 44) dX12_areOf_40 (by decide) ?_
            cases hF
            exact V_ireturn dX12_areOf_44 rfl (by decide) ⟨rfl, rfl⟩
set_option maxRecDepth 100000 in
set_option maxHeartbeats 4000000 in
theorem w_X12_worths_L5 {l : Launch} {s0 : State} {D : va_G} {a0 : Array Value} {sh : List Sh} {f : Nat} {S : St} {t : Nat} {p1 : Nat} {p2 : Int32} (ht : isX12 sh t) (hp1 : isX10 sh p1) {r : Int32} {d : Nat} (G : GC l s0 D a0) (hd : 1 ≤ d + 1) : ∀ (n : Nat) (l3 : Int32) (l4 : Int32), F_X12_worths_L5 sh f S t p1 p2 n l3 l4 = some r → V l s0 D (d + 1) 0 0 mX12_worths (fun v h => v = some (.int r) ∧ h = wd s0.heap.size sh S) v_noX 5 [(0, .ref (s0.heap.size + t)), (1, .ref (s0.heap.size + p1)), (2, .int p2), (3, .int l3), (4, .int l4)] [] (wd s0.heap.size sh S) := by
  intro n
  induction n with
  | zero => intro l3 l4 hF; cases hF
  | succ n ih =>
    intro l3 l4 hF
    unfold F_X12_worths_L5 at hF
    refine V_iload dX12_worths_5 rfl ?_
    refine V_aload_n dX12_worths_7 rfl ?_
    refine X_gI G dX12_worths_8 fX12_339 hp1.1 rfl ?_
    refine V_icmp_ge (tgt := 42) dX12_worths_11 (by decide) (fun c => ?_) (fun c => ?_)
    · replace hF := (if_pos c).symm.trans hF
      refine V_iload_n dX12_worths_42 rfl ?_
      cases hF
      exact V_ireturn dX12_worths_43 rfl rfl ⟨rfl, rfl⟩
    · replace hF := (if_neg c).symm.trans hF
      refine V_iload_n dX12_worths_14 rfl ?_
      refine V_aload_n dX12_worths_15 rfl ?_
      obtain ⟨b1, hrb1, hF⟩ := bd hF
      obtain ⟨hb1, hF⟩ := gv_in hF
      replace hb1 := ckX9_ok hb1
      refine X_gR G dX12_worths_16 fX12_312 ht.1 rfl hrb1 ?_
      refine X_gC G dX12_worths_19 fX12_287 hb1.1 rfl ?_
      refine V_aload_n dX12_worths_22 rfl ?_
      refine X_gC G dX12_worths_23 fX12_407 hp1.1 rfl ?_
      refine V_iconst (v := 3) dX12_worths_26 (by decide) ?_
      refine V_iload_n dX12_worths_27 rfl ?_
      refine V_imul dX12_worths_28 ?_
      refine V_iload dX12_worths_29 rfl ?_
      refine V_iadd dX12_worths_31 ?_
      obtain ⟨hz, hF⟩ := gv_out hF
      refine X_iald dX12_worths_32 hp1.2.2.2.1 hz ?_
      obtain ⟨hz, hF⟩ := gv_out hF
      refine X_iald dX12_worths_33 hb1.2.2.2.2.2.2.2.2.1 hz ?_
      refine V_imul dX12_worths_34 ?_
      obtain ⟨x2, qx2, hF⟩ := bnd_g hF
      refine B_istore_n qx2 dX12_worths_35 (by decide) ?_
      obtain ⟨x3, qx3, hF⟩ := bnd_g hF
      refine B_iinc (v := 1) qx3 dX12_worths_36 rfl (by decide) (by decide) ?_
      refine V_goto (tgt := 5) dX12_worths_39 (by decide) ?_
      exact V_lv' (ih _ _ hF) (v_all_c rfl (v_all_c rfl (v_all_c rfl (v_all_c rfl (v_all_c rfl v_all_n)))))
set_option maxRecDepth 100000 in
set_option maxHeartbeats 4000000 in
theorem s_X12_worths {l : Launch} {s0 : State} {D : va_G} {a0 : Array Value} {sh : List Sh} {f : Nat} {S : St} {t : Nat} {p1 : Nat} {p2 : Int32} (ht : isX12 sh t) (hp1 : isX10 sh p1) {r : Int32} (G : GC l s0 D a0) (hF : F_X12_worths sh f S t p1 p2 = some r) {d : Nat} (hd : 1 ≤ d) : Sp l s0 D d 0 0 mX12_worths (fun v h => v = some (.int r) ∧ h = wd s0.heap.size sh S) v_noX [.ref (s0.heap.size + t), .ref (s0.heap.size + p1), .int p2] (wd s0.heap.size sh S) := by
  obtain ⟨d, rfl⟩ : ∃ e, d = e + 1 := ⟨d - 1, by omega⟩
  refine Sp.of (by decide +kernel) rfl (Nat.le_of_ble_eq_true rfl) ?_
  unfold F_X12_worths at hF
  refine V_iconst (v := 1) dX12_worths_0 (by decide) ?_
  refine V_istore_n dX12_worths_1 (by decide) ?_
  refine V_iconst (v := 0) dX12_worths_2 (by decide) ?_
  refine V_istore dX12_worths_3 (by decide) ?_
  exact V_lv' (w_X12_worths_L5 ht hp1 G hd f _ _ hF) (v_all_c rfl (v_all_c rfl (v_all_c rfl (v_all_c rfl (v_all_c rfl v_all_n)))))
set_option maxRecDepth 100000 in
set_option maxHeartbeats 4000000 in
theorem w_X12_comes_L61 {l : Launch} {s0 : State} {D : va_G} {a0 : Array Value} {sh : List Sh} {f : Nat} {t : Nat} {p1 : Nat} {p2 : Int32} {p3 : Int32} (ht : isX12 sh t) (hp1 : isX10 sh p1) {r : St} {d : Nat} (G : GC l s0 D a0) (hd : 5 ≤ d + 1) : ∀ (n : Nat) (S : St) (l4 : Int32), F_X12_comes_L61 sh f t p1 p2 p3 n S l4 = some r → V l s0 D (d + 1) 0 0 mX12_comes (fun v h => v = none ∧ h = wd s0.heap.size sh r) v_noX 61 [(0, .ref (s0.heap.size + t)), (4, .int l4)] [] (wd s0.heap.size sh S) := by
  intro n
  induction n with
  | zero => intro S l4 hF; cases hF
  | succ n ih =>
    intro S l4 hF
    unfold F_X12_comes_L61 at hF
    refine V_iload dX12_comes_61 rfl ?_
    refine V_aload_n dX12_comes_63 rfl ?_
    refine X_gI G dX12_comes_64 fX12_331 ht.1 rfl ?_
    refine V_icmp_ge (tgt := 132) dX12_comes_67 (by decide) (fun c => ?_) (fun c => ?_)
    · replace hF := (if_pos c).symm.trans hF
      refine V_aload_n dX12_comes_132 rfl ?_
      refine X_gC G dX12_comes_133 fX12_94 ht.1 rfl ?_
      refine V_aload_n dX12_comes_136 rfl ?_
      refine X_gC G dX12_comes_137 fX12_100 ht.1 rfl ?_
      obtain ⟨y1, hc, hF⟩ := bd hF
      refine V_callS dX12_comes_140 kX12_484 (s_X12_adds ht.2.2.2.2.2.2.2.2.2.2.2.2.2.2.2.2.2.2.2.2.2.1 ht.2.2.2.2.2.2.2.2.2.2.2.2.2.2.2.2.2.2.2.2.2.2.2.1 G hc (by omega)) rfl (Nat.le_of_ble_eq_true rfl) (fun _ _ _ q => q.elim) ?_
      rintro _ _ ⟨rfl, rfl⟩
      refine V_aload_n dX12_comes_143 rfl ?_
      obtain ⟨y2, hc, hF⟩ := bd hF
      refine V_callV G dX12_comes_144 kX12_527 (wd_at ht.1) ⟨by decide, rfl⟩ (s_X12_lowers ht G hc (by omega)) rfl (Nat.le_of_ble_eq_true rfl) (fun _ _ _ q => q.elim) ?_
      rintro _ _ ⟨rfl, rfl⟩
      cases hF
      exact V_return dX12_comes_147 rfl ⟨rfl, rfl⟩
    · replace hF := (if_neg c).symm.trans hF
      refine V_aload_n dX12_comes_70 rfl ?_
      refine V_iload dX12_comes_71 rfl ?_
      obtain ⟨y3, hc, hF⟩ := bd hF
      refine V_callV G dX12_comes_73 kX12_442 (wd_at ht.1) ⟨by decide, rfl⟩ (s_X12_isInner ht G hc (by omega)) rfl (Nat.le_of_ble_eq_true rfl) (fun _ _ _ q => q.elim) ?_
      rintro _ _ ⟨rfl, rfl⟩
      refine V_if_ne (tgt := 82) dX12_comes_76 (by decide) (fun c => ?_) (fun c => ?_)
      · replace hF := (if_neg c).symm.trans hF
        refine V_aload_n dX12_comes_82 rfl ?_
        refine X_gC G dX12_comes_83 fX12_94 ht.1 rfl ?_
        refine V_aload_n dX12_comes_86 rfl ?_
        obtain ⟨b4, hrb4, hF⟩ := bd hF
        obtain ⟨hb4, hF⟩ := gv_in hF
        replace hb4 := ckX9_ok hb4
        refine X_gR G dX12_comes_87 fX12_312 ht.1 rfl hrb4 ?_
        refine X_gC G dX12_comes_90 fX12_252 hb4.1 rfl ?_
        refine V_aload_n dX12_comes_93 rfl ?_
        refine X_gC G dX12_comes_94 fX12_57 ht.1 rfl ?_
        refine V_iload dX12_comes_97 rfl ?_
        obtain ⟨hz, hF⟩ := gv_out hF
        refine X_iald dX12_comes_99 ht.2.2.2.2.2.2.2.2.2.1 hz ?_
        obtain ⟨hz, hF⟩ := gv_out hF
        refine X_iald dX12_comes_100 hb4.2.2.2.1 hz ?_
        obtain ⟨y5, hc, hF⟩ := bd hF
        refine V_callS dX12_comes_101 kX12_520 (s_X12_times ht.2.2.2.2.2.2.2.2.2.2.2.2.2.2.2.2.2.2.2.2.2.1 G hc (by omega)) rfl (Nat.le_of_ble_eq_true rfl) (fun _ _ _ q => q.elim) ?_
        rintro _ _ ⟨rfl, rfl⟩
        refine V_aload_n dX12_comes_104 rfl ?_
        refine X_gC G dX12_comes_105 fX12_97 ht.1 rfl ?_
        refine V_aload_n dX12_comes_108 rfl ?_
        obtain ⟨b6, hrb6, hF⟩ := bd hF
        obtain ⟨hb6, hF⟩ := gv_in hF
        replace hb6 := ckX9_ok hb6
        refine X_gR G dX12_comes_109 fX12_312 ht.1 rfl hrb6 ?_
        refine X_gC G dX12_comes_112 fX12_252 hb6.1 rfl ?_
        refine V_aload_n dX12_comes_115 rfl ?_
        refine X_gC G dX12_comes_116 fX12_57 ht.1 rfl ?_
        refine V_iload dX12_comes_119 rfl ?_
        obtain ⟨hz, hF⟩ := gv_out hF
        refine X_iald dX12_comes_121 ht.2.2.2.2.2.2.2.2.2.1 hz ?_
        obtain ⟨hz, hF⟩ := gv_out hF
        refine X_iald dX12_comes_122 hb6.2.2.2.1 hz ?_
        obtain ⟨y7, hc, hF⟩ := bd hF
        refine V_callS dX12_comes_123 kX12_520 (s_X12_times ht.2.2.2.2.2.2.2.2.2.2.2.2.2.2.2.2.2.2.2.2.2.2.1 G hc (by omega)) rfl (Nat.le_of_ble_eq_true rfl) (fun _ _ _ q => q.elim) ?_
        rintro _ _ ⟨rfl, rfl⟩
        obtain ⟨x8, qx8, hF⟩ := bnd_g hF
        refine B_iinc (v := 1) qx8 dX12_comes_126 rfl (by decide) (by decide) ?_
        refine V_goto (tgt := 61) dX12_comes_129 (by decide) ?_
        exact V_lv' (ih _ _ hF) (v_all_c rfl (v_all_c rfl v_all_n))
      · replace hF := (if_pos c).symm.trans hF
        refine V_goto (tgt := 126) dX12_comes_79 (by decide) ?_
        obtain ⟨x9, qx9, hF⟩ := bnd_g hF
        refine B_iinc (v := 1) qx9 dX12_comes_126 rfl (by decide) (by decide) ?_
        refine V_goto (tgt := 61) dX12_comes_129 (by decide) ?_
        exact V_lv' (ih _ _ hF) (v_all_c rfl (v_all_c rfl v_all_n))
set_option maxRecDepth 100000 in
set_option maxHeartbeats 4000000 in
theorem s_X12_comes {l : Launch} {s0 : State} {D : va_G} {a0 : Array Value} {sh : List Sh} {f : Nat} {S : St} {t : Nat} {p1 : Nat} {p2 : Int32} {p3 : Int32} (ht : isX12 sh t) (hp1 : isX10 sh p1) {r : St} (G : GC l s0 D a0) (hF : F_X12_comes sh f S t p1 p2 p3 = some r) {d : Nat} (hd : 5 ≤ d) : Sp l s0 D d 0 0 mX12_comes (fun v h => v = none ∧ h = wd s0.heap.size sh r) v_noX [.ref (s0.heap.size + t), .ref (s0.heap.size + p1), .int p2, .int p3] (wd s0.heap.size sh S) := by
  obtain ⟨d, rfl⟩ : ∃ e, d = e + 1 := ⟨d - 1, by omega⟩
  refine Sp.of (by decide +kernel) rfl (Nat.le_of_ble_eq_true rfl) ?_
  unfold F_X12_comes at hF
  refine V_aload_n dX12_comes_0 rfl ?_
  refine X_gC G dX12_comes_1 fX12_100 ht.1 rfl ?_
  refine V_aload_n dX12_comes_4 rfl ?_
  refine X_gC G dX12_comes_5 fX12_97 ht.1 rfl ?_
  obtain ⟨y1, hc, hF⟩ := bd hF
  refine V_callS dX12_comes_8 kX12_480 (s_X12_copies ht.2.2.2.2.2.2.2.2.2.2.2.2.2.2.2.2.2.2.2.2.2.2.2.1 ht.2.2.2.2.2.2.2.2.2.2.2.2.2.2.2.2.2.2.2.2.2.2.1 G hc (by omega)) rfl (Nat.le_of_ble_eq_true rfl) (fun _ _ _ q => q.elim) ?_
  rintro _ _ ⟨rfl, rfl⟩
  refine V_aload_n dX12_comes_11 rfl ?_
  refine X_gC G dX12_comes_12 fX12_100 ht.1 rfl ?_
  refine V_iload_n dX12_comes_15 rfl ?_
  obtain ⟨y2, hc, hF⟩ := bd hF
  refine V_callS dX12_comes_16 kX12_520 (s_X12_times ht.2.2.2.2.2.2.2.2.2.2.2.2.2.2.2.2.2.2.2.2.2.2.2.1 G hc (by omega)) rfl (Nat.le_of_ble_eq_true rfl) (fun _ _ _ q => q.elim) ?_
  rintro _ _ ⟨rfl, rfl⟩
  refine V_aload_n dX12_comes_19 rfl ?_
  refine X_gC G dX12_comes_20 fX12_100 ht.1 rfl ?_
  refine V_aload_n dX12_comes_23 rfl ?_
  refine V_aload_n dX12_comes_24 rfl ?_
  refine V_iload_n dX12_comes_25 rfl ?_
  obtain ⟨y3, hc, hF⟩ := bd hF
  refine V_callV G dX12_comes_26 kX12_523 (wd_at ht.1) ⟨by decide, rfl⟩ (s_X12_worths ht hp1 G hc (by omega)) rfl (Nat.le_of_ble_eq_true rfl) (fun _ _ _ q => q.elim) ?_
  rintro _ _ ⟨rfl, rfl⟩
  obtain ⟨y4, hc, hF⟩ := bd hF
  refine V_callS dX12_comes_29 kX12_520 (s_X12_times ht.2.2.2.2.2.2.2.2.2.2.2.2.2.2.2.2.2.2.2.2.2.2.2.1 G hc (by omega)) rfl (Nat.le_of_ble_eq_true rfl) (fun _ _ _ q => q.elim) ?_
  rintro _ _ ⟨rfl, rfl⟩
  refine V_aload_n dX12_comes_32 rfl ?_
  refine X_gC G dX12_comes_33 fX12_94 ht.1 rfl ?_
  refine V_aload_n dX12_comes_36 rfl ?_
  refine X_gC G dX12_comes_37 fX12_413 hp1.1 rfl ?_
  refine V_iload_n dX12_comes_40 rfl ?_
  obtain ⟨hz, hF⟩ := gv_out hF
  refine X_iald dX12_comes_41 hp1.2.2.2.2.2.1 hz ?_
  obtain ⟨y5, hc, hF⟩ := bd hF
  refine V_callS dX12_comes_42 kX12_520 (s_X12_times ht.2.2.2.2.2.2.2.2.2.2.2.2.2.2.2.2.2.2.2.2.2.1 G hc (by omega)) rfl (Nat.le_of_ble_eq_true rfl) (fun _ _ _ q => q.elim) ?_
  rintro _ _ ⟨rfl, rfl⟩
  refine V_aload_n dX12_comes_45 rfl ?_
  refine X_gC G dX12_comes_46 fX12_97 ht.1 rfl ?_
  refine V_aload_n dX12_comes_49 rfl ?_
  refine X_gC G dX12_comes_50 fX12_413 hp1.1 rfl ?_
  refine V_iload_n dX12_comes_53 rfl ?_
  obtain ⟨hz, hF⟩ := gv_out hF
  refine X_iald dX12_comes_54 hp1.2.2.2.2.2.1 hz ?_
  obtain ⟨y6, hc, hF⟩ := bd hF
  refine V_callS dX12_comes_55 kX12_520 (s_X12_times ht.2.2.2.2.2.2.2.2.2.2.2.2.2.2.2.2.2.2.2.2.2.2.1 G hc (by omega)) rfl (Nat.le_of_ble_eq_true rfl) (fun _ _ _ q => q.elim) ?_
  rintro _ _ ⟨rfl, rfl⟩
  refine V_iconst (v := 0) dX12_comes_58 (by decide) ?_
  refine V_istore dX12_comes_59 (by decide) ?_
  exact V_lv' (w_X12_comes_L61 ht hp1 G hd f _ _ hF) (v_all_c rfl (v_all_c rfl v_all_n))
set_option maxRecDepth 100000 in
set_option maxHeartbeats 4000000 in
theorem w_X12_sum_L49 {l : Launch} {s0 : State} {D : va_G} {a0 : Array Value} {sh : List Sh} {f : Nat} {t : Nat} {p1 : Int32} {p2 : Int32} {p3 : Int32} {p4 : Int32} (ht : isX12 sh t) {r : Int64 × St} {d : Nat} (G : GC l s0 D a0) (hd : 6 ≤ d + 1) : ∀ (n : Nat) (S : St) (l5 : Int32), F_X12_sum_L49 sh f t p1 p2 p3 p4 n S l5 = some r → V l s0 D (d + 1) 0 0 mX12_sum (fun v h => v = some (.long r.1) ∧ h = wd s0.heap.size sh r.2) v_noX 49 [(0, .ref (s0.heap.size + t)), (1, .int p1), (2, .int p2), (3, .int p3), (4, .int p4), (5, .int l5)] [] (wd s0.heap.size sh S) := by
  intro n
  induction n with
  | zero => intro S l5 hF; cases hF
  | succ n ih =>
    intro S l5 hF
    unfold F_X12_sum_L49 at hF
    refine V_iload dX12_sum_49 rfl ?_
    refine V_aload_n dX12_sum_51 rfl ?_
    refine X_gC G dX12_sum_52 fX12_47 ht.1 rfl ?_
    refine X_gI G dX12_sum_55 fX12_404 ht.2.2.2.2.2.2.1.1 rfl ?_
    refine V_icmp_ge (tgt := 121) dX12_sum_58 (by decide) (fun c => ?_) (fun c => ?_)
    · replace hF := (if_pos c).symm.trans hF
      refine V_aload_n dX12_sum_121 rfl ?_
      refine V_iload dX12_sum_122 rfl ?_
      obtain ⟨y1, hc, hF⟩ := bd hF
      refine V_callV G dX12_sum_124 kX12_541 (wd_at ht.1) ⟨by decide, rfl⟩ (s_X12_told ht G hc (by omega)) rfl (Nat.le_of_ble_eq_true rfl) (fun _ _ _ q => q.elim) ?_
      rintro _ _ ⟨rfl, rfl⟩
      cases hF
      exact V_lreturn dX12_sum_127 rfl ⟨rfl, rfl⟩
    · replace hF := (if_neg c).symm.trans hF
      refine V_aload_n dX12_sum_61 rfl ?_
      refine V_aload_n dX12_sum_62 rfl ?_
      refine X_gC G dX12_sum_63 fX12_47 ht.1 rfl ?_
      refine V_iload dX12_sum_66 rfl ?_
      refine V_iload_n dX12_sum_68 rfl ?_
      refine V_iload_n dX12_sum_69 rfl ?_
      refine V_iload_n dX12_sum_70 rfl ?_
      obtain ⟨y2, hc, hF⟩ := bd hF
      refine V_callV G dX12_sum_71 kX12_533 (wd_at ht.1) ⟨by decide, rfl⟩ (s_X12_hasPowers ht ht.2.2.2.2.2.2.1 G hc (by omega)) rfl (Nat.le_of_ble_eq_true rfl) (fun _ _ _ q => q.elim) ?_
      rintro _ _ ⟨rfl, rfl⟩
      refine V_if_ne (tgt := 80) dX12_sum_74 (by decide) (fun c => ?_) (fun c => ?_)
      · replace hF := (if_neg c).symm.trans hF
        refine V_aload_n dX12_sum_80 rfl ?_
        refine V_aload_n dX12_sum_81 rfl ?_
        refine X_gC G dX12_sum_82 fX12_47 ht.1 rfl ?_
        refine V_iload dX12_sum_85 rfl ?_
        obtain ⟨y3, hc, hF⟩ := bd hF
        refine V_callV G dX12_sum_87 kX12_454 (wd_at ht.1) ⟨by decide, rfl⟩ (s_X12_shows ht ht.2.2.2.2.2.2.1 G hc (by omega)) rfl (Nat.le_of_ble_eq_true rfl) (fun _ _ _ q => q.elim) ?_
        rintro _ _ ⟨rfl, rfl⟩
        refine V_aload_n dX12_sum_90 rfl ?_
        refine V_aload_n dX12_sum_91 rfl ?_
        refine X_gC G dX12_sum_92 fX12_47 ht.1 rfl ?_
        refine V_iload dX12_sum_95 rfl ?_
        refine V_aload_n dX12_sum_97 rfl ?_
        obtain ⟨y4, hc, hF⟩ := bd hF
        refine V_callV G dX12_sum_98 kX12_461 (wd_at ht.1) ⟨by decide, rfl⟩ (s_X12_signHere ht G hc (by omega)) rfl (Nat.le_of_ble_eq_true rfl) (fun _ _ _ q => q.elim) ?_
        rintro _ _ ⟨rfl, rfl⟩
        refine V_aload_n dX12_sum_101 rfl ?_
        refine X_gC G dX12_sum_102 fX12_47 ht.1 rfl ?_
        refine X_gC G dX12_sum_105 fX12_416 ht.2.2.2.2.2.2.1.1 rfl ?_
        refine V_iload dX12_sum_108 rfl ?_
        obtain ⟨hz, hF⟩ := gv_out hF
        refine X_iald dX12_sum_110 ht.2.2.2.2.2.2.1.2.2.2.2.1 hz ?_
        refine V_imul dX12_sum_111 ?_
        obtain ⟨y5, hc, hF⟩ := bd hF
        refine V_callV G dX12_sum_112 kX12_537 (wd_at ht.1) ⟨by decide, rfl⟩ (s_X12_comes ht ht.2.2.2.2.2.2.1 G hc (by omega)) rfl (Nat.le_of_ble_eq_true rfl) (fun _ _ _ q => q.elim) ?_
        rintro _ _ ⟨rfl, rfl⟩
        obtain ⟨x6, qx6, hF⟩ := bnd_g hF
        refine B_iinc (v := 1) qx6 dX12_sum_115 rfl (by decide) (by decide) ?_
        refine V_goto (tgt := 49) dX12_sum_118 (by decide) ?_
        exact V_lv' (ih _ _ hF) (v_all_c rfl (v_all_c rfl (v_all_c rfl (v_all_c rfl (v_all_c rfl (v_all_c rfl v_all_n))))))
      · replace hF := (if_pos c).symm.trans hF
        refine V_goto (tgt := 115) dX12_sum_77 (by decide) ?_
        obtain ⟨x7, qx7, hF⟩ := bnd_g hF
        refine B_iinc (v := 1) qx7 dX12_sum_115 rfl (by decide) (by decide) ?_
        refine V_goto (tgt := 49) dX12_sum_118 (by decide) ?_
        exact V_lv' (ih _ _ hF) (v_all_c rfl (v_all_c rfl (v_all_c rfl (v_all_c rfl (v_all_c rfl (v_all_c rfl v_all_n))))))
set_option maxRecDepth 100000 in
set_option maxHeartbeats 4000000 in
theorem s_X12_sum {l : Launch} {s0 : State} {D : va_G} {a0 : Array Value} {sh : List Sh} {f : Nat} {S : St} {t : Nat} {p1 : Int32} {p2 : Int32} {p3 : Int32} {p4 : Int32} (ht : isX12 sh t) {r : Int64 × St} (G : GC l s0 D a0) (hF : F_X12_sum sh f S t p1 p2 p3 p4 = some r) {d : Nat} (hd : 6 ≤ d) : Sp l s0 D d 0 0 mX12_sum (fun v h => v = some (.long r.1) ∧ h = wd s0.heap.size sh r.2) v_noX [.ref (s0.heap.size + t), .int p1, .int p2, .int p3, .int p4] (wd s0.heap.size sh S) := by
  obtain ⟨d, rfl⟩ : ∃ e, d = e + 1 := ⟨d - 1, by omega⟩
  refine Sp.of (by decide +kernel) rfl (Nat.le_of_ble_eq_true rfl) ?_
  unfold F_X12_sum at hF
  refine V_aload_n dX12_sum_0 rfl ?_
  refine V_iconst (v := 0) dX12_sum_1 (by decide) ?_
  refine X_pI G dX12_sum_2 gX12_147 ht.1 rfl rfl rfl ?_
  obtain ⟨S1, qS1, hF⟩ := bnd_g hF
  refine V_eqS qS1 ?_
  refine V_aload_n dX12_sum_5 rfl ?_
  refine V_iload_n dX12_sum_6 rfl ?_
  refine V_iload_n dX12_sum_7 rfl ?_
  refine V_iload_n dX12_sum_8 rfl ?_
  obtain ⟨y2, hc, hF⟩ := bd hF
  refine V_callV G dX12_sum_9 kX12_530 (wd_at ht.1) ⟨by decide, rfl⟩ (s_X12_areOf ht G hc (by omega)) rfl (Nat.le_of_ble_eq_true rfl) (fun _ _ _ q => q.elim) ?_
  rintro _ _ ⟨rfl, rfl⟩
  refine V_if_ne (tgt := 19) dX12_sum_12 (by decide) (fun c => ?_) (fun c => ?_)
  · replace hF := (if_neg c).symm.trans hF
    refine V_aload_n dX12_sum_19 rfl ?_
    refine X_gC G dX12_sum_20 fX12_94 ht.1 rfl ?_
    refine V_iconst (v := 0) dX12_sum_23 (by decide) ?_
    obtain ⟨y3, hc, hF⟩ := bd hF
    refine V_callS dX12_sum_24 kX12_501 (s_X12_set ht.2.2.2.2.2.2.2.2.2.2.2.2.2.2.2.2.2.2.2.2.2.1 G hc (by omega)) rfl (Nat.le_of_ble_eq_true rfl) (fun _ _ _ q => q.elim) ?_
    rintro _ _ ⟨rfl, rfl⟩
    refine V_aload_n dX12_sum_27 rfl ?_
    refine X_gC G dX12_sum_28 fX12_97 ht.1 rfl ?_
    refine V_iconst (v := 1) dX12_sum_31 (by decide) ?_
    obtain ⟨y4, hc, hF⟩ := bd hF
    refine V_callS dX12_sum_32 kX12_501 (s_X12_set ht.2.2.2.2.2.2.2.2.2.2.2.2.2.2.2.2.2.2.2.2.2.2.1 G hc (by omega)) rfl (Nat.le_of_ble_eq_true rfl) (fun _ _ _ q => q.elim) ?_
    rintro _ _ ⟨rfl, rfl⟩
    refine V_aload_n dX12_sum_35 rfl ?_
    refine V_aload_n dX12_sum_36 rfl ?_
    refine X_gC G dX12_sum_37 fX12_47 ht.1 rfl ?_
    refine X_gI G dX12_sum_40 fX12_339 ht.2.2.2.2.2.2.1.1 rfl ?_
    refine X_pI G dX12_sum_43 gX12_439 ht.1 rfl rfl rfl ?_
    obtain ⟨S5, qS5, hF⟩ := bnd_g hF
    refine V_eqS qS5 ?_
    refine V_iconst (v := 0) dX12_sum_46 (by decide) ?_
    refine V_istore dX12_sum_47 (by decide) ?_
    exact V_lv' (w_X12_sum_L49 ht G hd f _ _ hF) (v_all_c rfl (v_all_c rfl (v_all_c rfl (v_all_c rfl (v_all_c rfl (v_all_c rfl v_all_n))))))
  · replace hF := (if_pos c).symm.trans hF
    refine V_ldc2 dX12_sum_15 qX12_129 ?_
    cases hF
    exact V_lreturn dX12_sum_18 rfl ⟨rfl, rfl⟩
set_option maxRecDepth 100000 in
set_option maxHeartbeats 4000000 in
theorem w_X12_byPairings_L300 {l : Launch} {s0 : State} {D : va_G} {a0 : Array Value} {sh : List Sh} {f : Nat} {t : Nat} {p1 : Int32} {p2 : Int32} {p3 : Int32} {p4 : Int32} (ht : isX12 sh t) {r : Int64 × St} {d : Nat} (G : GC l s0 D a0) (hd : 15 ≤ d + 1) {k196 : St → Int32 → Int32 → Int32 → Option (Int64 × St)} (hk196 : ∀ (S : St) (l5 : Int32) (l8 : Int32) (l9 : Int32), k196 S l5 l8 l9 = some r → V l s0 D (d + 1) 0 0 mX12_byPairings (fun v h => v = some (.long r.1) ∧ h = wd s0.heap.size sh r.2) v_noX 196 [(0, .ref (s0.heap.size + t)), (1, .int p1), (2, .int p2), (3, .int p3), (4, .int p4), (5, .int l5), (8, .int l8), (9, .int l9)] [] (wd s0.heap.size sh S)) : ∀ (S : St) (l5 : Int32) (l8 : Int32) (l9 : Int32) (l10 : Int64) (l12 : Int32), F_X12_byPairings_L300 sh f t p1 p2 p3 p4 k196 S l5 l8 l9 l10 l12 = some r → V l s0 D (d + 1) 0 0 mX12_byPairings (fun v h => v = some (.long r.1) ∧ h = wd s0.heap.size sh r.2) v_noX 300 [(0, .ref (s0.heap.size + t)), (1, .int p1), (2, .int p2), (3, .int p3), (4, .int p4), (5, .int l5), (8, .int l8), (9, .int l9), (10, .long l10), (12, .int l12)] [] (wd s0.heap.size sh S) := by
  intro S l5 l8 l9 l10 l12 hF
  unfold F_X12_byPairings_L300 at hF
  refine V_iload dX12_byPairings_300 rfl ?_
  refine V_iload dX12_byPairings_302 rfl ?_
  refine V_icmp_ne (tgt := 341) dX12_byPairings_304 (by decide) (fun c => ?_) (fun c => ?_)
  · replace hF := (if_neg c).symm.trans hF
    refine V_aload_n dX12_byPairings_341 rfl ?_
    refine X_gC G dX12_byPairings_342 fX12_124 ht.1 rfl ?_
    refine V_iload dX12_byPairings_345 rfl ?_
    refine V_dup2 dX12_byPairings_347 rfl rfl ?_
    obtain ⟨hz, hF⟩ := gv_out hF
    refine X_iald dX12_byPairings_348 ht.2.2.2.2.2.2.2.2.2.2.2.2.2.2.2.2.2.2.2.2.2.2.2.2.2.2.2.2.2.2.2.1 hz ?_
    refine V_aload_n dX12_byPairings_349 rfl ?_
    obtain ⟨y1, hc, hF⟩ := bd hF
    refine V_callV G dX12_byPairings_350 kX12_461 (wd_at ht.1) ⟨by decide, rfl⟩ (s_X12_signHere ht G hc (by omega)) rfl (Nat.le_of_ble_eq_true rfl) (fun _ _ _ q => q.elim) ?_
    rintro _ _ ⟨rfl, rfl⟩
    refine V_iadd dX12_byPairings_353 ?_
    obtain ⟨hz, hF⟩ := gv_out hF
    refine X_iast dX12_byPairings_354 ht.2.2.2.2.2.2.2.2.2.2.2.2.2.2.2.2.2.2.2.2.2.2.2.2.2.2.2.2.2.2.2.1 hz ?_
    obtain ⟨S2, qS2, hF⟩ := bnd_g hF
    refine V_eqS qS2 ?_
    obtain ⟨x3, qx3, hF⟩ := bnd_g hF
    refine B_iinc (v := 1) qx3 dX12_byPairings_355 rfl (by decide) (by decide) ?_
    refine V_goto (tgt := 196) dX12_byPairings_358 (by decide) ?_
    exact V_lv' (hk196 _ _ _ _ hF) (v_all_c rfl (v_all_c rfl (v_all_c rfl (v_all_c rfl (v_all_c rfl (v_all_c rfl (v_all_c rfl (v_all_c rfl v_all_n))))))))
  · replace hF := (if_pos c).symm.trans hF
    refine V_aload_n dX12_byPairings_307 rfl ?_
    refine X_gC G dX12_byPairings_308 fX12_118 ht.1 rfl ?_
    refine V_iload dX12_byPairings_311 rfl ?_
    refine V_lload dX12_byPairings_313 rfl ?_
    obtain ⟨hz, hF⟩ := gv_out hF
    refine X_last dX12_byPairings_315 ht.2.2.2.2.2.2.2.2.2.2.2.2.2.2.2.2.2.2.2.2.2.2.2.2.2.2.2.2.2.1 hz ?_
    obtain ⟨S4, qS4, hF⟩ := bnd_g hF
    refine V_eqS qS4 ?_
    refine V_aload_n dX12_byPairings_316 rfl ?_
    refine X_gC G dX12_byPairings_317 fX12_121 ht.1 rfl ?_
    refine V_iload dX12_byPairings_320 rfl ?_
    refine V_aload_n dX12_byPairings_322 rfl ?_
    refine X_gC G dX12_byPairings_323 fX12_72 ht.1 rfl ?_
    refine V_iload dX12_byPairings_326 rfl ?_
    obtain ⟨hz, hF⟩ := gv_out hF
    refine X_lald dX12_byPairings_328 ht.2.2.2.2.2.2.2.2.2.2.2.2.2.2.1 hz ?_
    obtain ⟨hz, hF⟩ := gv_out hF
    refine X_last dX12_byPairings_329 ht.2.2.2.2.2.2.2.2.2.2.2.2.2.2.2.2.2.2.2.2.2.2.2.2.2.2.2.2.2.2.1 hz ?_
    obtain ⟨S5, qS5, hF⟩ := bnd_g hF
    refine V_eqS qS5 ?_
    refine V_aload_n dX12_byPairings_330 rfl ?_
    refine X_gC G dX12_byPairings_331 fX12_124 ht.1 rfl ?_
    refine V_iload dX12_byPairings_334 rfl ?_
    refine V_iconst (v := 0) dX12_byPairings_336 (by decide) ?_
    obtain ⟨hz, hF⟩ := gv_out hF
    refine X_iast dX12_byPairings_337 ht.2.2.2.2.2.2.2.2.2.2.2.2.2.2.2.2.2.2.2.2.2.2.2.2.2.2.2.2.2.2.2.1 hz ?_
    obtain ⟨S6, qS6, hF⟩ := bnd_g hF
    refine V_eqS qS6 ?_
    obtain ⟨x7, qx7, hF⟩ := bnd_g hF
    refine B_iinc (v := 1) qx7 dX12_byPairings_338 rfl (by decide) (by decide) ?_
    refine V_aload_n dX12_byPairings_341 rfl ?_
    refine X_gC G dX12_byPairings_342 fX12_124 ht.1 rfl ?_
    refine V_iload dX12_byPairings_345 rfl ?_
    refine V_dup2 dX12_byPairings_347 rfl rfl ?_
    obtain ⟨hz, hF⟩ := gv_out hF
    refine X_iald dX12_byPairings_348 ht.2.2.2.2.2.2.2.2.2.2.2.2.2.2.2.2.2.2.2.2.2.2.2.2.2.2.2.2.2.2.2.1 hz ?_
    refine V_aload_n dX12_byPairings_349 rfl ?_
    obtain ⟨y8, hc, hF⟩ := bd hF
    refine V_callV G dX12_byPairings_350 kX12_461 (wd_at ht.1) ⟨by decide, rfl⟩ (s_X12_signHere ht G hc (by omega)) rfl (Nat.le_of_ble_eq_true rfl) (fun _ _ _ q => q.elim) ?_
    rintro _ _ ⟨rfl, rfl⟩
    refine V_iadd dX12_byPairings_353 ?_
    obtain ⟨hz, hF⟩ := gv_out hF
    refine X_iast dX12_byPairings_354 ht.2.2.2.2.2.2.2.2.2.2.2.2.2.2.2.2.2.2.2.2.2.2.2.2.2.2.2.2.2.2.2.1 hz ?_
    obtain ⟨S9, qS9, hF⟩ := bnd_g hF
    refine V_eqS qS9 ?_
    obtain ⟨x10, qx10, hF⟩ := bnd_g hF
    refine B_iinc (v := 1) qx10 dX12_byPairings_355 rfl (by decide) (by decide) ?_
    refine V_goto (tgt := 196) dX12_byPairings_358 (by decide) ?_
    exact V_lv' (hk196 _ _ _ _ hF) (v_all_c rfl (v_all_c rfl (v_all_c rfl (v_all_c rfl (v_all_c rfl (v_all_c rfl (v_all_c rfl (v_all_c rfl v_all_n))))))))
set_option maxRecDepth 100000 in
set_option maxHeartbeats 4000000 in
theorem w_X12_byPairings_L274 {l : Launch} {s0 : State} {D : va_G} {a0 : Array Value} {sh : List Sh} {f : Nat} {t : Nat} {p1 : Int32} {p2 : Int32} {p3 : Int32} {p4 : Int32} (ht : isX12 sh t) {r : Int64 × St} {d : Nat} (G : GC l s0 D a0) (hd : 15 ≤ d + 1) {k196 : St → Int32 → Int32 → Int32 → Option (Int64 × St)} (hk196 : ∀ (S : St) (l5 : Int32) (l8 : Int32) (l9 : Int32), k196 S l5 l8 l9 = some r → V l s0 D (d + 1) 0 0 mX12_byPairings (fun v h => v = some (.long r.1) ∧ h = wd s0.heap.size sh r.2) v_noX 196 [(0, .ref (s0.heap.size + t)), (1, .int p1), (2, .int p2), (3, .int p3), (4, .int p4), (5, .int l5), (8, .int l8), (9, .int l9)] [] (wd s0.heap.size sh S)) : ∀ (n : Nat) (S : St) (l5 : Int32) (l8 : Int32) (l9 : Int32) (l10 : Int64) (l12 : Int32), F_X12_byPairings_L274 sh f t p1 p2 p3 p4 k196 n S l5 l8 l9 l10 l12 = some r → V l s0 D (d + 1) 0 0 mX12_byPairings (fun v h => v = some (.long r.1) ∧ h = wd s0.heap.size sh r.2) v_noX 274 [(0, .ref (s0.heap.size + t)), (1, .int p1), (2, .int p2), (3, .int p3), (4, .int p4), (5, .int l5), (8, .int l8), (9, .int l9), (10, .long l10), (12, .int l12)] [] (wd s0.heap.size sh S) := by
  intro n
  induction n with
  | zero => intro S l5 l8 l9 l10 l12 hF; cases hF
  | succ n ih =>
    intro S l5 l8 l9 l10 l12 hF
    unfold F_X12_byPairings_L274 at hF
    refine V_iload dX12_byPairings_274 rfl ?_
    refine V_iload dX12_byPairings_276 rfl ?_
    refine V_icmp_ge (tgt := 300) dX12_byPairings_278 (by decide) (fun c => ?_) (fun c => ?_)
    · replace hF := (if_pos c).symm.trans hF
      exact V_lv' (w_X12_byPairings_L300 ht G hd hk196 _ _ _ _ _ _ hF) (v_all_c rfl (v_all_c rfl (v_all_c rfl (v_all_c rfl (v_all_c rfl (v_all_c rfl (v_all_c rfl (v_all_c rfl (v_all_c rfl (v_all_c rfl v_all_n))))))))))
    · replace hF := (if_neg c).symm.trans hF
      refine V_aload_n dX12_byPairings_281 rfl ?_
      refine X_gC G dX12_byPairings_282 fX12_118 ht.1 rfl ?_
      refine V_iload dX12_byPairings_285 rfl ?_
      obtain ⟨hz, hF⟩ := gv_out hF
      refine X_lald dX12_byPairings_287 ht.2.2.2.2.2.2.2.2.2.2.2.2.2.2.2.2.2.2.2.2.2.2.2.2.2.2.2.2.2.1 hz ?_
      refine V_lload dX12_byPairings_288 rfl ?_
      refine V_lcmp dX12_byPairings_290 ?_
      refine V_if_eq (tgt := 300) dX12_byPairings_291 (by decide) (fun c => ?_) (fun c => ?_)
      · replace hF := (if_pos c).symm.trans hF
        exact V_lv' (w_X12_byPairings_L300 ht G hd hk196 _ _ _ _ _ _ hF) (v_all_c rfl (v_all_c rfl (v_all_c rfl (v_all_c rfl (v_all_c rfl (v_all_c rfl (v_all_c rfl (v_all_c rfl (v_all_c rfl (v_all_c rfl v_all_n))))))))))
      · replace hF := (if_neg c).symm.trans hF
        obtain ⟨x1, qx1, hF⟩ := bnd_g hF
        refine B_iinc (v := 1) qx1 dX12_byPairings_294 rfl (by decide) (by decide) ?_
        refine V_goto (tgt := 274) dX12_byPairings_297 (by decide) ?_
        exact V_lv' (ih _ _ _ _ _ _ hF) (v_all_c rfl (v_all_c rfl (v_all_c rfl (v_all_c rfl (v_all_c rfl (v_all_c rfl (v_all_c rfl (v_all_c rfl (v_all_c rfl (v_all_c rfl v_all_n))))))))))
set_option maxRecDepth 100000 in
set_option maxHeartbeats 4000000 in
theorem w_X12_byPairings_L222 {l : Launch} {s0 : State} {D : va_G} {a0 : Array Value} {sh : List Sh} {f : Nat} {t : Nat} {p1 : Int32} {p2 : Int32} {p3 : Int32} {p4 : Int32} (ht : isX12 sh t) {r : Int64 × St} {d : Nat} (G : GC l s0 D a0) (hd : 15 ≤ d + 1) {k196 : St → Int32 → Int32 → Int32 → Option (Int64 × St)} (hk196 : ∀ (S : St) (l5 : Int32) (l8 : Int32) (l9 : Int32), k196 S l5 l8 l9 = some r → V l s0 D (d + 1) 0 0 mX12_byPairings (fun v h => v = some (.long r.1) ∧ h = wd s0.heap.size sh r.2) v_noX 196 [(0, .ref (s0.heap.size + t)), (1, .int p1), (2, .int p2), (3, .int p3), (4, .int p4), (5, .int l5), (8, .int l8), (9, .int l9)] [] (wd s0.heap.size sh S)) : ∀ (n : Nat) (S : St) (l5 : Int32) (l8 : Int32) (l9 : Int32) (l10 : Int64) (l12 : Int32), F_X12_byPairings_L222 sh f t p1 p2 p3 p4 k196 n S l5 l8 l9 l10 l12 = some r → V l s0 D (d + 1) 0 0 mX12_byPairings (fun v h => v = some (.long r.1) ∧ h = wd s0.heap.size sh r.2) v_noX 222 [(0, .ref (s0.heap.size + t)), (1, .int p1), (2, .int p2), (3, .int p3), (4, .int p4), (5, .int l5), (8, .int l8), (9, .int l9), (10, .long l10), (12, .int l12)] [] (wd s0.heap.size sh S) := by
  intro n
  induction n with
  | zero => intro S l5 l8 l9 l10 l12 hF; cases hF
  | succ n ih =>
    intro S l5 l8 l9 l10 l12 hF
    unfold F_X12_byPairings_L222 at hF
    refine V_iload dX12_byPairings_222 rfl ?_
    refine V_aload_n dX12_byPairings_224 rfl ?_
    refine X_gI G dX12_byPairings_225 fX12_331 ht.1 rfl ?_
    refine V_icmp_ge (tgt := 271) dX12_byPairings_228 (by decide) (fun c => ?_) (fun c => ?_)
    · replace hF := (if_pos c).symm.trans hF
      refine V_iconst (v := 0) dX12_byPairings_271 (by decide) ?_
      refine V_istore dX12_byPairings_272 (by decide) ?_
      exact V_lv' (w_X12_byPairings_L274 ht G hd hk196 f _ _ _ _ _ _ hF) (v_all_c rfl (v_all_c rfl (v_all_c rfl (v_all_c rfl (v_all_c rfl (v_all_c rfl (v_all_c rfl (v_all_c rfl (v_all_c rfl (v_all_c rfl v_all_n))))))))))
    · replace hF := (if_neg c).symm.trans hF
      refine V_lload dX12_byPairings_231 rfl ?_
      refine V_aload_n dX12_byPairings_233 rfl ?_
      refine V_iload dX12_byPairings_234 rfl ?_
      obtain ⟨y1, hc, hF⟩ := bd hF
      refine V_callV G dX12_byPairings_236 kX12_442 (wd_at ht.1) ⟨by decide, rfl⟩ (s_X12_isInner ht G hc (by omega)) rfl (Nat.le_of_ble_eq_true rfl) (fun _ _ _ q => q.elim) ?_
      rintro _ _ ⟨rfl, rfl⟩
      refine V_if_eq (tgt := 261) dX12_byPairings_239 (by decide) (fun c => ?_) (fun c => ?_)
      · replace hF := (if_pos c).symm.trans hF
        refine V_lconst (v := 1) dX12_byPairings_261 (by decide) ?_
        refine V_lmul dX12_byPairings_262 ?_
        obtain ⟨x2, qx2, hF⟩ := bnd_g hF
        refine B_lstore qx2 dX12_byPairings_263 (by decide) ?_
        obtain ⟨x3, qx3, hF⟩ := bnd_g hF
        refine B_iinc (v := 1) qx3 dX12_byPairings_265 rfl (by decide) (by decide) ?_
        refine V_goto (tgt := 222) dX12_byPairings_268 (by decide) ?_
        exact V_lv' (ih _ _ _ _ _ _ hF) (v_all_c rfl (v_all_c rfl (v_all_c rfl (v_all_c rfl (v_all_c rfl (v_all_c rfl (v_all_c rfl (v_all_c rfl (v_all_c rfl (v_all_c rfl v_all_n))))))))))
      · replace hF := (if_neg c).symm.trans hF
        refine V_aload_n dX12_byPairings_242 rfl ?_
        obtain ⟨b4, hrb4, hF⟩ := bd hF
        obtain ⟨hb4, hF⟩ := gv_in hF
        replace hb4 := ckX9_ok hb4
        refine X_gR G dX12_byPairings_243 fX12_312 ht.1 rfl hrb4 ?_
        refine X_gC G dX12_byPairings_246 fX12_252 hb4.1 rfl ?_
        refine V_aload_n dX12_byPairings_249 rfl ?_
        refine X_gC G dX12_byPairings_250 fX12_57 ht.1 rfl ?_
        refine V_iload dX12_byPairings_253 rfl ?_
        obtain ⟨hz, hF⟩ := gv_out hF
        refine X_iald dX12_byPairings_255 ht.2.2.2.2.2.2.2.2.2.1 hz ?_
        obtain ⟨hz, hF⟩ := gv_out hF
        refine X_iald dX12_byPairings_256 hb4.2.2.2.1 hz ?_
        refine V_i2l dX12_byPairings_257 ?_
        refine V_goto (tgt := 262) dX12_byPairings_258 (by decide) ?_
        refine V_lmul dX12_byPairings_262 ?_
        obtain ⟨x5, qx5, hF⟩ := bnd_g hF
        refine B_lstore qx5 dX12_byPairings_263 (by decide) ?_
        obtain ⟨x6, qx6, hF⟩ := bnd_g hF
        refine B_iinc (v := 1) qx6 dX12_byPairings_265 rfl (by decide) (by decide) ?_
        refine V_goto (tgt := 222) dX12_byPairings_268 (by decide) ?_
        exact V_lv' (ih _ _ _ _ _ _ hF) (v_all_c rfl (v_all_c rfl (v_all_c rfl (v_all_c rfl (v_all_c rfl (v_all_c rfl (v_all_c rfl (v_all_c rfl (v_all_c rfl (v_all_c rfl v_all_n))))))))))
set_option maxRecDepth 100000 in
set_option maxHeartbeats 4000000 in
theorem w_X12_byPairings_L364 {l : Launch} {s0 : State} {D : va_G} {a0 : Array Value} {sh : List Sh} {f : Nat} {t : Nat} {p1 : Int32} {p2 : Int32} {p3 : Int32} {p4 : Int32} (ht : isX12 sh t) {r : Int64 × St} {d : Nat} (G : GC l s0 D a0) (hd : 15 ≤ d + 1) {k49 : St → Int32 → Option (Int64 × St)} (hk49 : ∀ (S : St) (l5 : Int32), k49 S l5 = some r → V l s0 D (d + 1) 0 0 mX12_byPairings (fun v h => v = some (.long r.1) ∧ h = wd s0.heap.size sh r.2) v_noX 49 [(0, .ref (s0.heap.size + t)), (1, .int p1), (2, .int p2), (3, .int p3), (4, .int p4), (5, .int l5)] [] (wd s0.heap.size sh S)) : ∀ (n : Nat) (S : St) (l5 : Int32) (l8 : Int32) (l9 : Int32), F_X12_byPairings_L364 sh f t p1 p2 p3 p4 k49 n S l5 l8 l9 = some r → V l s0 D (d + 1) 0 0 mX12_byPairings (fun v h => v = some (.long r.1) ∧ h = wd s0.heap.size sh r.2) v_noX 364 [(0, .ref (s0.heap.size + t)), (1, .int p1), (2, .int p2), (3, .int p3), (4, .int p4), (5, .int l5), (8, .int l8), (9, .int l9)] [] (wd s0.heap.size sh S) := by
  intro n
  induction n with
  | zero => intro S l5 l8 l9 hF; cases hF
  | succ n ih =>
    intro S l5 l8 l9 hF
    unfold F_X12_byPairings_L364 at hF
    refine V_iload dX12_byPairings_364 rfl ?_
    refine V_iload dX12_byPairings_366 rfl ?_
    refine V_icmp_ge (tgt := 405) dX12_byPairings_368 (by decide) (fun c => ?_) (fun c => ?_)
    · replace hF := (if_pos c).symm.trans hF
      obtain ⟨x1, qx1, hF⟩ := bnd_g hF
      refine B_iinc (v := 1) qx1 dX12_byPairings_405 rfl (by decide) (by decide) ?_
      refine V_goto (tgt := 49) dX12_byPairings_408 (by decide) ?_
      exact V_lv' (hk49 _ _ hF) (v_all_c rfl (v_all_c rfl (v_all_c rfl (v_all_c rfl (v_all_c rfl (v_all_c rfl v_all_n))))))
    · replace hF := (if_neg c).symm.trans hF
      refine V_aload_n dX12_byPairings_371 rfl ?_
      refine V_aload_n dX12_byPairings_372 rfl ?_
      refine X_gC G dX12_byPairings_373 fX12_121 ht.1 rfl ?_
      refine V_iload dX12_byPairings_376 rfl ?_
      obtain ⟨hz, hF⟩ := gv_out hF
      refine X_lald dX12_byPairings_378 ht.2.2.2.2.2.2.2.2.2.2.2.2.2.2.2.2.2.2.2.2.2.2.2.2.2.2.2.2.2.2.1 hz ?_
      obtain ⟨y2, hc, hF⟩ := bd hF
      refine V_callV G dX12_byPairings_379 kX12_366 (wd_at ht.1) ⟨by decide, rfl⟩ (s_X12_takes ht G hc (by omega)) rfl (Nat.le_of_ble_eq_true rfl) (fun _ _ _ q => q.elim) ?_
      rintro _ _ ⟨rfl, rfl⟩
      refine V_aload_n dX12_byPairings_382 rfl ?_
      refine V_aload_n dX12_byPairings_383 rfl ?_
      refine X_gC G dX12_byPairings_384 fX12_47 ht.1 rfl ?_
      refine V_iload dX12_byPairings_387 rfl ?_
      refine V_aload_n dX12_byPairings_389 rfl ?_
      refine X_gC G dX12_byPairings_390 fX12_124 ht.1 rfl ?_
      refine V_iload dX12_byPairings_393 rfl ?_
      obtain ⟨hz, hF⟩ := gv_out hF
      refine X_iald dX12_byPairings_395 ht.2.2.2.2.2.2.2.2.2.2.2.2.2.2.2.2.2.2.2.2.2.2.2.2.2.2.2.2.2.2.2.1 hz ?_
      obtain ⟨y3, hc, hF⟩ := bd hF
      refine V_callV G dX12_byPairings_396 kX12_537 (wd_at ht.1) ⟨by decide, rfl⟩ (s_X12_comes ht ht.2.2.2.2.2.2.1 G hc (by omega)) rfl (Nat.le_of_ble_eq_true rfl) (fun _ _ _ q => q.elim) ?_
      rintro _ _ ⟨rfl, rfl⟩
      obtain ⟨x4, qx4, hF⟩ := bnd_g hF
      refine B_iinc (v := 1) qx4 dX12_byPairings_399 rfl (by decide) (by decide) ?_
      refine V_goto (tgt := 364) dX12_byPairings_402 (by decide) ?_
      exact V_lv' (ih _ _ _ _ hF) (v_all_c rfl (v_all_c rfl (v_all_c rfl (v_all_c rfl (v_all_c rfl (v_all_c rfl (v_all_c rfl (v_all_c rfl v_all_n))))))))
set_option maxRecDepth 100000 in
set_option maxHeartbeats 4000000 in
theorem w_X12_byPairings_L196 {l : Launch} {s0 : State} {D : va_G} {a0 : Array Value} {sh : List Sh} {f : Nat} {t : Nat} {p1 : Int32} {p2 : Int32} {p3 : Int32} {p4 : Int32} (ht : isX12 sh t) {r : Int64 × St} {d : Nat} (G : GC l s0 D a0) (hd : 15 ≤ d + 1) {k49 : St → Int32 → Option (Int64 × St)} (hk49 : ∀ (S : St) (l5 : Int32), k49 S l5 = some r → V l s0 D (d + 1) 0 0 mX12_byPairings (fun v h => v = some (.long r.1) ∧ h = wd s0.heap.size sh r.2) v_noX 49 [(0, .ref (s0.heap.size + t)), (1, .int p1), (2, .int p2), (3, .int p3), (4, .int p4), (5, .int l5)] [] (wd s0.heap.size sh S)) : ∀ (n : Nat) (S : St) (l5 : Int32) (l8 : Int32) (l9 : Int32), F_X12_byPairings_L196 sh f t p1 p2 p3 p4 k49 n S l5 l8 l9 = some r → V l s0 D (d + 1) 0 0 mX12_byPairings (fun v h => v = some (.long r.1) ∧ h = wd s0.heap.size sh r.2) v_noX 196 [(0, .ref (s0.heap.size + t)), (1, .int p1), (2, .int p2), (3, .int p3), (4, .int p4), (5, .int l5), (8, .int l8), (9, .int l9)] [] (wd s0.heap.size sh S) := by
  intro n
  induction n with
  | zero => intro S l5 l8 l9 hF; cases hF
  | succ n ih =>
    intro S l5 l8 l9 hF
    unfold F_X12_byPairings_L196 at hF
    refine V_iload dX12_byPairings_196 rfl ?_
    refine V_aload_n dX12_byPairings_198 rfl ?_
    refine X_gI G dX12_byPairings_199 fX12_353 ht.1 rfl ?_
    refine V_icmp_ge (tgt := 361) dX12_byPairings_202 (by decide) (fun c => ?_) (fun c => ?_)
    · replace hF := (if_pos c).symm.trans hF
      refine V_iconst (v := 0) dX12_byPairings_361 (by decide) ?_
      refine V_istore dX12_byPairings_362 (by decide) ?_
      exact V_lv' (w_X12_byPairings_L364 ht G hd hk49 f _ _ _ _ hF) (v_all_c rfl (v_all_c rfl (v_all_c rfl (v_all_c rfl (v_all_c rfl (v_all_c rfl (v_all_c rfl (v_all_c rfl v_all_n))))))))
    · replace hF := (if_neg c).symm.trans hF
      refine V_aload_n dX12_byPairings_205 rfl ?_
      refine V_aload_n dX12_byPairings_206 rfl ?_
      refine X_gC G dX12_byPairings_207 fX12_72 ht.1 rfl ?_
      refine V_iload dX12_byPairings_210 rfl ?_
      obtain ⟨hz, hF⟩ := gv_out hF
      refine X_lald dX12_byPairings_212 ht.2.2.2.2.2.2.2.2.2.2.2.2.2.2.1 hz ?_
      obtain ⟨y1, hc, hF⟩ := bd hF
      refine V_callV G dX12_byPairings_213 kX12_366 (wd_at ht.1) ⟨by decide, rfl⟩ (s_X12_takes ht G hc (by omega)) rfl (Nat.le_of_ble_eq_true rfl) (fun _ _ _ q => q.elim) ?_
      rintro _ _ ⟨rfl, rfl⟩
      refine V_lconst (v := 1) dX12_byPairings_216 (by decide) ?_
      refine V_lstore dX12_byPairings_217 (by decide) ?_
      refine V_iconst (v := 0) dX12_byPairings_219 (by decide) ?_
      refine V_istore dX12_byPairings_220 (by decide) ?_
      exact V_lv' (w_X12_byPairings_L222 ht G hd ih f _ _ _ _ _ _ hF) (v_all_c rfl (v_all_c rfl (v_all_c rfl (v_all_c rfl (v_all_c rfl (v_all_c rfl (v_all_c rfl (v_all_c rfl (v_all_c rfl (v_all_c rfl v_all_n))))))))))
set_option maxRecDepth 100000 in
set_option maxHeartbeats 4000000 in
theorem w_X12_byPairings_L141 {l : Launch} {s0 : State} {D : va_G} {a0 : Array Value} {sh : List Sh} {f : Nat} {t : Nat} {p1 : Int32} {p2 : Int32} {p3 : Int32} {p4 : Int32} (ht : isX12 sh t) {r : Int64 × St} {d : Nat} (G : GC l s0 D a0) (hd : 15 ≤ d + 1) {k49 : St → Int32 → Option (Int64 × St)} (hk49 : ∀ (S : St) (l5 : Int32), k49 S l5 = some r → V l s0 D (d + 1) 0 0 mX12_byPairings (fun v h => v = some (.long r.1) ∧ h = wd s0.heap.size sh r.2) v_noX 49 [(0, .ref (s0.heap.size + t)), (1, .int p1), (2, .int p2), (3, .int p3), (4, .int p4), (5, .int l5)] [] (wd s0.heap.size sh S)) : ∀ (S : St) (l5 : Int32) (l6 : Int32), F_X12_byPairings_L141 sh f t p1 p2 p3 p4 k49 S l5 l6 = some r → V l s0 D (d + 1) 0 0 mX12_byPairings (fun v h => v = some (.long r.1) ∧ h = wd s0.heap.size sh r.2) v_noX 141 [(0, .ref (s0.heap.size + t)), (1, .int p1), (2, .int p2), (3, .int p3), (4, .int p4), (5, .int l5), (6, .int l6)] [] (wd s0.heap.size sh S) := by
  intro S l5 l6 hF
  unfold F_X12_byPairings_L141 at hF
  refine V_iload dX12_byPairings_141 rfl ?_
  refine V_if_eq (tgt := 405) dX12_byPairings_143 (by decide) (fun c => ?_) (fun c => ?_)
  · replace hF := (if_pos c).symm.trans hF
    obtain ⟨x1, qx1, hF⟩ := bnd_g hF
    refine B_iinc (v := 1) qx1 dX12_byPairings_405 rfl (by decide) (by decide) ?_
    refine V_goto (tgt := 49) dX12_byPairings_408 (by decide) ?_
    exact V_lv' (hk49 _ _ hF) (v_all_c rfl (v_all_c rfl (v_all_c rfl (v_all_c rfl (v_all_c rfl (v_all_c rfl v_all_n))))))
  · replace hF := (if_neg c).symm.trans hF
    refine V_aload_n dX12_byPairings_146 rfl ?_
    refine V_aload_n dX12_byPairings_147 rfl ?_
    refine X_gC G dX12_byPairings_148 fX12_47 ht.1 rfl ?_
    refine V_iload dX12_byPairings_151 rfl ?_
    refine V_iload_n dX12_byPairings_153 rfl ?_
    refine V_iload_n dX12_byPairings_154 rfl ?_
    refine V_iload_n dX12_byPairings_155 rfl ?_
    obtain ⟨y2, hc, hF⟩ := bd hF
    refine V_callV G dX12_byPairings_156 kX12_533 (wd_at ht.1) ⟨by decide, rfl⟩ (s_X12_hasPowers ht ht.2.2.2.2.2.2.1 G hc (by omega)) rfl (Nat.le_of_ble_eq_true rfl) (fun _ _ _ q => q.elim) ?_
    rintro _ _ ⟨rfl, rfl⟩
    refine V_if_ne (tgt := 165) dX12_byPairings_159 (by decide) (fun c => ?_) (fun c => ?_)
    · replace hF := (if_neg c).symm.trans hF
      refine V_aload_n dX12_byPairings_165 rfl ?_
      refine V_aload_n dX12_byPairings_166 rfl ?_
      refine X_gC G dX12_byPairings_167 fX12_47 ht.1 rfl ?_
      refine V_aload_n dX12_byPairings_170 rfl ?_
      refine X_gC G dX12_byPairings_171 fX12_47 ht.1 rfl ?_
      refine X_gC G dX12_byPairings_174 fX12_407 ht.2.2.2.2.2.2.1.1 rfl ?_
      refine V_iconst (v := 3) dX12_byPairings_177 (by decide) ?_
      refine V_iload dX12_byPairings_178 rfl ?_
      refine V_imul dX12_byPairings_180 ?_
      obtain ⟨y3, hc, hF⟩ := bd hF
      refine V_callV G dX12_byPairings_181 kX12_393 (wd_at ht.1) ⟨by decide, rfl⟩ (s_X12_lays ht ht.2.2.2.2.2.2.1 ht.2.2.2.2.2.2.1.2.2.2.1 G hc (by omega)) rfl (Nat.le_of_ble_eq_true rfl) (fun _ _ _ q => q.elim) ?_
      rintro _ _ ⟨rfl, rfl⟩
      obtain ⟨x4, qx4, hF⟩ := bnd_g hF
      refine B_istore qx4 dX12_byPairings_184 (by decide) ?_
      refine V_aload_n dX12_byPairings_186 rfl ?_
      obtain ⟨y5, hc, hF⟩ := bd hF
      refine V_callV G dX12_byPairings_187 kX12_397 (wd_at ht.1) ⟨by decide, rfl⟩ (s_X12_pairs ht G hc (by omega)) rfl (Nat.le_of_ble_eq_true rfl) (fun _ _ _ q => q.elim) ?_
      rintro _ _ ⟨rfl, rfl⟩
      refine V_iconst (v := 0) dX12_byPairings_190 (by decide) ?_
      refine V_istore dX12_byPairings_191 (by decide) ?_
      refine V_iconst (v := 0) dX12_byPairings_193 (by decide) ?_
      refine V_istore dX12_byPairings_194 (by decide) ?_
      exact V_lv' (w_X12_byPairings_L196 ht G hd hk49 f _ _ _ _ hF) (v_all_c rfl (v_all_c rfl (v_all_c rfl (v_all_c rfl (v_all_c rfl (v_all_c rfl (v_all_c rfl (v_all_c rfl v_all_n))))))))
    · replace hF := (if_pos c).symm.trans hF
      refine V_goto (tgt := 405) dX12_byPairings_162 (by decide) ?_
      obtain ⟨x6, qx6, hF⟩ := bnd_g hF
      refine B_iinc (v := 1) qx6 dX12_byPairings_405 rfl (by decide) (by decide) ?_
      refine V_goto (tgt := 49) dX12_byPairings_408 (by decide) ?_
      exact V_lv' (hk49 _ _ hF) (v_all_c rfl (v_all_c rfl (v_all_c rfl (v_all_c rfl (v_all_c rfl (v_all_c rfl v_all_n))))))
set_option maxRecDepth 100000 in
set_option maxHeartbeats 4000000 in
theorem w_X12_byPairings_L76 {l : Launch} {s0 : State} {D : va_G} {a0 : Array Value} {sh : List Sh} {f : Nat} {t : Nat} {p1 : Int32} {p2 : Int32} {p3 : Int32} {p4 : Int32} (ht : isX12 sh t) {r : Int64 × St} {d : Nat} (G : GC l s0 D a0) (hd : 15 ≤ d + 1) {k49 : St → Int32 → Option (Int64 × St)} (hk49 : ∀ (S : St) (l5 : Int32), k49 S l5 = some r → V l s0 D (d + 1) 0 0 mX12_byPairings (fun v h => v = some (.long r.1) ∧ h = wd s0.heap.size sh r.2) v_noX 49 [(0, .ref (s0.heap.size + t)), (1, .int p1), (2, .int p2), (3, .int p3), (4, .int p4), (5, .int l5)] [] (wd s0.heap.size sh S)) : ∀ (n : Nat) (S : St) (l5 : Int32) (l6 : Int32) (l7 : Int32), F_X12_byPairings_L76 sh f t p1 p2 p3 p4 k49 n S l5 l6 l7 = some r → V l s0 D (d + 1) 0 0 mX12_byPairings (fun v h => v = some (.long r.1) ∧ h = wd s0.heap.size sh r.2) v_noX 76 [(0, .ref (s0.heap.size + t)), (1, .int p1), (2, .int p2), (3, .int p3), (4, .int p4), (5, .int l5), (6, .int l6), (7, .int l7)] [] (wd s0.heap.size sh S) := by
  intro n
  induction n with
  | zero => intro S l5 l6 l7 hF; cases hF
  | succ n ih =>
    intro S l5 l6 l7 hF
    unfold F_X12_byPairings_L76 at hF
    refine V_iload dX12_byPairings_76 rfl ?_
    refine V_aload_n dX12_byPairings_78 rfl ?_
    refine X_gC G dX12_byPairings_79 fX12_47 ht.1 rfl ?_
    refine X_gI G dX12_byPairings_82 fX12_339 ht.2.2.2.2.2.2.1.1 rfl ?_
    refine V_icmp_ge (tgt := 141) dX12_byPairings_85 (by decide) (fun c => ?_) (fun c => ?_)
    · replace hF := (if_pos c).symm.trans hF
      exact V_lv' (w_X12_byPairings_L141 ht G hd hk49 _ _ _ hF) (v_all_c rfl (v_all_c rfl (v_all_c rfl (v_all_c rfl (v_all_c rfl (v_all_c rfl (v_all_c rfl v_all_n)))))))
    · replace hF := (if_neg c).symm.trans hF
      refine V_iload dX12_byPairings_88 rfl ?_
      refine V_if_ne (tgt := 141) dX12_byPairings_90 (by decide) (fun c => ?_) (fun c => ?_)
      · replace hF := (if_neg c).symm.trans hF
        exact V_lv' (w_X12_byPairings_L141 ht G hd hk49 _ _ _ hF) (v_all_c rfl (v_all_c rfl (v_all_c rfl (v_all_c rfl (v_all_c rfl (v_all_c rfl (v_all_c rfl v_all_n)))))))
      · replace hF := (if_pos c).symm.trans hF
        refine V_aload_n dX12_byPairings_93 rfl ?_
        refine X_gC G dX12_byPairings_94 fX12_47 ht.1 rfl ?_
        refine X_gC G dX12_byPairings_97 fX12_407 ht.2.2.2.2.2.2.1.1 rfl ?_
        refine V_iconst (v := 3) dX12_byPairings_100 (by decide) ?_
        refine V_iload dX12_byPairings_101 rfl ?_
        refine V_imul dX12_byPairings_103 ?_
        refine V_iload dX12_byPairings_104 rfl ?_
        refine V_iadd dX12_byPairings_106 ?_
        obtain ⟨hz, hF⟩ := gv_out hF
        refine X_iald dX12_byPairings_107 ht.2.2.2.2.2.2.1.2.2.2.1 hz ?_
        refine V_aload_n dX12_byPairings_108 rfl ?_
        refine X_gC G dX12_byPairings_109 fX12_47 ht.1 rfl ?_
        refine X_gC G dX12_byPairings_112 fX12_407 ht.2.2.2.2.2.2.1.1 rfl ?_
        refine V_iconst (v := 3) dX12_byPairings_115 (by decide) ?_
        refine V_iload dX12_byPairings_116 rfl ?_
        refine V_imul dX12_byPairings_118 ?_
        refine V_iconst (v := 3) dX12_byPairings_119 (by decide) ?_
        refine V_isub dX12_byPairings_120 ?_
        refine V_iload dX12_byPairings_121 rfl ?_
        refine V_iadd dX12_byPairings_123 ?_
        obtain ⟨hz, hF⟩ := gv_out hF
        refine X_iald dX12_byPairings_124 ht.2.2.2.2.2.2.1.2.2.2.1 hz ?_
        refine V_icmp_eq (tgt := 132) dX12_byPairings_125 (by decide) (fun c => ?_) (fun c => ?_)
        · replace hF := (if_pos c).symm.trans hF
          refine V_iconst (v := 0) dX12_byPairings_132 (by decide) ?_
          refine V_istore dX12_byPairings_133 (by decide) ?_
          obtain ⟨x1, qx1, hF⟩ := bnd_g hF
          refine B_iinc (v := 1) qx1 dX12_byPairings_135 rfl (by decide) (by decide) ?_
          refine V_goto (tgt := 76) dX12_byPairings_138 (by decide) ?_
          exact V_lv' (ih _ _ _ _ hF) (v_all_c rfl (v_all_c rfl (v_all_c rfl (v_all_c rfl (v_all_c rfl (v_all_c rfl (v_all_c rfl (v_all_c rfl v_all_n))))))))
        · replace hF := (if_neg c).symm.trans hF
          refine V_iconst (v := 1) dX12_byPairings_128 (by decide) ?_
          refine V_goto (tgt := 133) dX12_byPairings_129 (by decide) ?_
          refine V_istore dX12_byPairings_133 (by decide) ?_
          obtain ⟨x2, qx2, hF⟩ := bnd_g hF
          refine B_iinc (v := 1) qx2 dX12_byPairings_135 rfl (by decide) (by decide) ?_
          refine V_goto (tgt := 76) dX12_byPairings_138 (by decide) ?_
          exact V_lv' (ih _ _ _ _ hF) (v_all_c rfl (v_all_c rfl (v_all_c rfl (v_all_c rfl (v_all_c rfl (v_all_c rfl (v_all_c rfl (v_all_c rfl v_all_n))))))))
set_option maxRecDepth 100000 in
set_option maxHeartbeats 4000000 in
theorem w_X12_byPairings_L49 {l : Launch} {s0 : State} {D : va_G} {a0 : Array Value} {sh : List Sh} {f : Nat} {t : Nat} {p1 : Int32} {p2 : Int32} {p3 : Int32} {p4 : Int32} (ht : isX12 sh t) {r : Int64 × St} {d : Nat} (G : GC l s0 D a0) (hd : 15 ≤ d + 1) : ∀ (n : Nat) (S : St) (l5 : Int32), F_X12_byPairings_L49 sh f t p1 p2 p3 p4 n S l5 = some r → V l s0 D (d + 1) 0 0 mX12_byPairings (fun v h => v = some (.long r.1) ∧ h = wd s0.heap.size sh r.2) v_noX 49 [(0, .ref (s0.heap.size + t)), (1, .int p1), (2, .int p2), (3, .int p3), (4, .int p4), (5, .int l5)] [] (wd s0.heap.size sh S) := by
  intro n
  induction n with
  | zero => intro S l5 hF; cases hF
  | succ n ih =>
    intro S l5 hF
    unfold F_X12_byPairings_L49 at hF
    refine V_iload dX12_byPairings_49 rfl ?_
    refine V_aload_n dX12_byPairings_51 rfl ?_
    refine X_gC G dX12_byPairings_52 fX12_47 ht.1 rfl ?_
    refine X_gI G dX12_byPairings_55 fX12_404 ht.2.2.2.2.2.2.1.1 rfl ?_
    refine V_icmp_ge (tgt := 411) dX12_byPairings_58 (by decide) (fun c => ?_) (fun c => ?_)
    · replace hF := (if_pos c).symm.trans hF
      refine V_aload_n dX12_byPairings_411 rfl ?_
      refine V_iload dX12_byPairings_412 rfl ?_
      obtain ⟨y1, hc, hF⟩ := bd hF
      refine V_callV G dX12_byPairings_414 kX12_541 (wd_at ht.1) ⟨by decide, rfl⟩ (s_X12_told ht G hc (by omega)) rfl (Nat.le_of_ble_eq_true rfl) (fun _ _ _ q => q.elim) ?_
      rintro _ _ ⟨rfl, rfl⟩
      cases hF
      exact V_lreturn dX12_byPairings_417 rfl ⟨rfl, rfl⟩
    · replace hF := (if_neg c).symm.trans hF
      refine V_iload dX12_byPairings_61 rfl ?_
      refine V_if_ne (tgt := 70) dX12_byPairings_63 (by decide) (fun c => ?_) (fun c => ?_)
      · replace hF := (if_neg c).symm.trans hF
        refine V_iconst (v := 0) dX12_byPairings_70 (by decide) ?_
        refine V_istore dX12_byPairings_71 (by decide) ?_
        refine V_iconst (v := 0) dX12_byPairings_73 (by decide) ?_
        refine V_istore dX12_byPairings_74 (by decide) ?_
        exact V_lv' (w_X12_byPairings_L76 ht G hd ih f _ _ _ _ hF) (v_all_c rfl (v_all_c rfl (v_all_c rfl (v_all_c rfl (v_all_c rfl (v_all_c rfl (v_all_c rfl (v_all_c rfl v_all_n))))))))
      · replace hF := (if_pos c).symm.trans hF
        refine V_iconst (v := 1) dX12_byPairings_66 (by decide) ?_
        refine V_goto (tgt := 71) dX12_byPairings_67 (by decide) ?_
        refine V_istore dX12_byPairings_71 (by decide) ?_
        refine V_iconst (v := 0) dX12_byPairings_73 (by decide) ?_
        refine V_istore dX12_byPairings_74 (by decide) ?_
        exact V_lv' (w_X12_byPairings_L76 ht G hd ih f _ _ _ _ hF) (v_all_c rfl (v_all_c rfl (v_all_c rfl (v_all_c rfl (v_all_c rfl (v_all_c rfl (v_all_c rfl (v_all_c rfl v_all_n))))))))
set_option maxRecDepth 100000 in
set_option maxHeartbeats 4000000 in
theorem s_X12_byPairings {l : Launch} {s0 : State} {D : va_G} {a0 : Array Value} {sh : List Sh} {f : Nat} {S : St} {t : Nat} {p1 : Int32} {p2 : Int32} {p3 : Int32} {p4 : Int32} (ht : isX12 sh t) {r : Int64 × St} (G : GC l s0 D a0) (hF : F_X12_byPairings sh f S t p1 p2 p3 p4 = some r) {d : Nat} (hd : 15 ≤ d) : Sp l s0 D d 0 0 mX12_byPairings (fun v h => v = some (.long r.1) ∧ h = wd s0.heap.size sh r.2) v_noX [.ref (s0.heap.size + t), .int p1, .int p2, .int p3, .int p4] (wd s0.heap.size sh S) := by
  obtain ⟨d, rfl⟩ : ∃ e, d = e + 1 := ⟨d - 1, by omega⟩
  refine Sp.of (by decide +kernel) rfl (Nat.le_of_ble_eq_true rfl) ?_
  unfold F_X12_byPairings at hF
  refine V_aload_n dX12_byPairings_0 rfl ?_
  refine V_iconst (v := 0) dX12_byPairings_1 (by decide) ?_
  refine X_pI G dX12_byPairings_2 gX12_147 ht.1 rfl rfl rfl ?_
  obtain ⟨S1, qS1, hF⟩ := bnd_g hF
  refine V_eqS qS1 ?_
  refine V_aload_n dX12_byPairings_5 rfl ?_
  refine V_iload_n dX12_byPairings_6 rfl ?_
  refine V_iload_n dX12_byPairings_7 rfl ?_
  refine V_iload_n dX12_byPairings_8 rfl ?_
  obtain ⟨y2, hc, hF⟩ := bd hF
  refine V_callV G dX12_byPairings_9 kX12_530 (wd_at ht.1) ⟨by decide, rfl⟩ (s_X12_areOf ht G hc (by omega)) rfl (Nat.le_of_ble_eq_true rfl) (fun _ _ _ q => q.elim) ?_
  rintro _ _ ⟨rfl, rfl⟩
  refine V_if_ne (tgt := 19) dX12_byPairings_12 (by decide) (fun c => ?_) (fun c => ?_)
  · replace hF := (if_neg c).symm.trans hF
    refine V_aload_n dX12_byPairings_19 rfl ?_
    refine X_gC G dX12_byPairings_20 fX12_94 ht.1 rfl ?_
    refine V_iconst (v := 0) dX12_byPairings_23 (by decide) ?_
    obtain ⟨y3, hc, hF⟩ := bd hF
    refine V_callS dX12_byPairings_24 kX12_501 (s_X12_set ht.2.2.2.2.2.2.2.2.2.2.2.2.2.2.2.2.2.2.2.2.2.1 G hc (by omega)) rfl (Nat.le_of_ble_eq_true rfl) (fun _ _ _ q => q.elim) ?_
    rintro _ _ ⟨rfl, rfl⟩
    refine V_aload_n dX12_byPairings_27 rfl ?_
    refine X_gC G dX12_byPairings_28 fX12_97 ht.1 rfl ?_
    refine V_iconst (v := 1) dX12_byPairings_31 (by decide) ?_
    obtain ⟨y4, hc, hF⟩ := bd hF
    refine V_callS dX12_byPairings_32 kX12_501 (s_X12_set ht.2.2.2.2.2.2.2.2.2.2.2.2.2.2.2.2.2.2.2.2.2.2.1 G hc (by omega)) rfl (Nat.le_of_ble_eq_true rfl) (fun _ _ _ q => q.elim) ?_
    rintro _ _ ⟨rfl, rfl⟩
    refine V_aload_n dX12_byPairings_35 rfl ?_
    refine V_aload_n dX12_byPairings_36 rfl ?_
    refine X_gC G dX12_byPairings_37 fX12_47 ht.1 rfl ?_
    refine X_gI G dX12_byPairings_40 fX12_339 ht.2.2.2.2.2.2.1.1 rfl ?_
    refine X_pI G dX12_byPairings_43 gX12_439 ht.1 rfl rfl rfl ?_
    obtain ⟨S5, qS5, hF⟩ := bnd_g hF
    refine V_eqS qS5 ?_
    refine V_iconst (v := 0) dX12_byPairings_46 (by decide) ?_
    refine V_istore dX12_byPairings_47 (by decide) ?_
    exact V_lv' (w_X12_byPairings_L49 ht G hd f _ _ hF) (v_all_c rfl (v_all_c rfl (v_all_c rfl (v_all_c rfl (v_all_c rfl (v_all_c rfl v_all_n))))))
  · replace hF := (if_pos c).symm.trans hF
    refine V_ldc2 dX12_byPairings_15 qX12_129 ?_
    cases hF
    exact V_lreturn dX12_byPairings_18 rfl ⟨rfl, rfl⟩

