/-! the exceptions' own constructors: RuntimeException, Exception, Throwable with four arguments; Stop() -/
def yTT : MethodName := ⟨"java/lang/Throwable", "<init>", "(Ljava/lang/String;Ljava/lang/Throwable;ZZ)V"⟩
abbrev cTT : ByteArray := prog_22_method_5_code
abbrev mTT : MI := (yTT, cTT, 5, none, [])
def yTE : MethodName := ⟨"java/lang/Exception", "<init>", "(Ljava/lang/String;Ljava/lang/Throwable;ZZ)V"⟩
abbrev cTE : ByteArray := prog_15_method_5_code
abbrev mTE : MI := (yTE, cTE, 5, none, [])
def yTU : MethodName := ⟨"java/lang/RuntimeException", "<init>", "(Ljava/lang/String;Ljava/lang/Throwable;ZZ)V"⟩
abbrev cTU : ByteArray := prog_18_method_5_code
abbrev mTU : MI := (yTU, cTU, 5, none, [])
theorem bTT : v_cB mTT 4 := ⟨gw_t 1264 (by decide +kernel) rfl, gw_t 12 (by decide +kernel) rfl, by decide +kernel, by decide⟩
theorem bTE : v_cB mTE 4 := ⟨gw_t 1261 (by decide +kernel) rfl, gw_t 13 (by decide +kernel) rfl, by decide +kernel, by decide⟩
theorem bTU : v_cB mTU 4 := ⟨gw_t 1258 (by decide +kernel) rfl, gw_t 14 (by decide +kernel) rfl, by decide +kernel, by decide⟩
theorem kTU : v_cI "DrawnWaysModel$Stop" 1 mTU 4 := ⟨bTU, Or.inl (gw_t 1256 (by decide +kernel) rfl), gw_t 1257 (by decide +kernel) rfl, rfl, rfl⟩
theorem kTE : v_cI "java/lang/RuntimeException" 16 mTE 4 := ⟨bTE, Or.inl (gw_t 1259 (by decide +kernel) rfl), gw_t 1260 (by decide +kernel) rfl, rfl, rfl⟩
theorem kTT : v_cI "java/lang/Exception" 16 mTT 4 := ⟨bTT, Or.inl (gw_t 1262 (by decide +kernel) rfl), gw_t 1263 (by decide +kernel) rfl, rfl, rfl⟩
theorem dTE_0 : decode cTE 0 = .ok (.aload_n 0, 1) := by decide +kernel
theorem dTE_1 : decode cTE 1 = .ok (.aload_n 1, 1) := by decide +kernel
theorem dTE_2 : decode cTE 2 = .ok (.aload_n 2, 1) := by decide +kernel
theorem dTE_3 : decode cTE 3 = .ok (.iload_n 3, 1) := by decide +kernel
theorem dTE_4 : decode cTE 4 = .ok (.iload 4, 2) := by decide +kernel
theorem dTE_6 : decode cTE 6 = .ok (.invokespecial 16, 3) := by decide +kernel
theorem dTE_9 : decode cTE 9 = .ok (.return_, 1) := by decide +kernel
theorem dTU_0 : decode cTU 0 = .ok (.aload_n 0, 1) := by decide +kernel
theorem dTU_1 : decode cTU 1 = .ok (.aload_n 1, 1) := by decide +kernel
theorem dTU_2 : decode cTU 2 = .ok (.aload_n 2, 1) := by decide +kernel
theorem dTU_3 : decode cTU 3 = .ok (.iload_n 3, 1) := by decide +kernel
theorem dTU_4 : decode cTU 4 = .ok (.iload 4, 2) := by decide +kernel
theorem dTU_6 : decode cTU 6 = .ok (.invokespecial 16, 3) := by decide +kernel
theorem dTU_9 : decode cTU 9 = .ok (.return_, 1) := by decide +kernel
theorem dTT_0 : decode cTT 0 = .ok (.aload_n 0, 1) := by decide +kernel
theorem dTT_1 : decode cTT 1 = .ok (.invokespecial 1, 3) := by decide +kernel
theorem dTT_4 : decode cTT 4 = .ok (.aload_n 0, 1) := by decide +kernel
theorem dTT_5 : decode cTT 5 = .ok (.aload_n 0, 1) := by decide +kernel
theorem dTT_6 : decode cTT 6 = .ok (.putfield 7, 3) := by decide +kernel
theorem dTT_9 : decode cTT 9 = .ok (.aload_n 0, 1) := by decide +kernel
theorem dTT_10 : decode cTT 10 = .ok (.getstatic 13, 3) := by decide +kernel
theorem dTT_13 : decode cTT 13 = .ok (.putfield 17, 3) := by decide +kernel
theorem dTT_16 : decode cTT 16 = .ok (.aload_n 0, 1) := by decide +kernel
theorem dTT_17 : decode cTT 17 = .ok (.getstatic 20, 3) := by decide +kernel
theorem dTT_20 : decode cTT 20 = .ok (.putfield 24, 3) := by decide +kernel
theorem dTT_23 : decode cTT 23 = .ok (.iload 4, 2) := by decide +kernel
theorem dTT_25 : decode cTT 25 = .ok (.ifCond .eq 11, 3) := by decide +kernel
theorem dTT_36 : decode cTT 36 = .ok (.aload_n 0, 1) := by decide +kernel
theorem dTT_37 : decode cTT 37 = .ok (.aconst_null, 1) := by decide +kernel
theorem dTT_38 : decode cTT 38 = .ok (.putfield 17, 3) := by decide +kernel
theorem dTT_41 : decode cTT 41 = .ok (.aload_n 0, 1) := by decide +kernel
theorem dTT_42 : decode cTT 42 = .ok (.aload_n 1, 1) := by decide +kernel
theorem dTT_43 : decode cTT 43 = .ok (.putfield 31, 3) := by decide +kernel
theorem dTT_46 : decode cTT 46 = .ok (.aload_n 0, 1) := by decide +kernel
theorem dTT_47 : decode cTT 47 = .ok (.aload_n 2, 1) := by decide +kernel
theorem dTT_48 : decode cTT 48 = .ok (.putfield 7, 3) := by decide +kernel
theorem dTT_51 : decode cTT 51 = .ok (.iload_n 3, 1) := by decide +kernel
theorem dTT_52 : decode cTT 52 = .ok (.ifCond .ne 8, 3) := by decide +kernel
theorem dTT_55 : decode cTT 55 = .ok (.aload_n 0, 1) := by decide +kernel
theorem dTT_56 : decode cTT 56 = .ok (.aconst_null, 1) := by decide +kernel
theorem dTT_57 : decode cTT 57 = .ok (.putfield 24, 3) := by decide +kernel
theorem dTT_60 : decode cTT 60 = .ok (.return_, 1) := by decide +kernel
theorem gTT_7 : v_fldP "java/lang/Throwable" 7 11 0 (.object "java/lang/Throwable") false := ⟨RX11, TX11, 8, tyX11, by decide, rfl, by decide, inX11, tyX11_ok, nmX11, rfl, by decide +kernel, (fun h => by cases h), Or.inl (gw_t 1172 (by decide +kernel) rfl)⟩
theorem gTT_17 : v_fldP "java/lang/Throwable" 17 11 1 (.array (.object "java/lang/StackTraceElement")) false := ⟨RX11, TX11, 8, tyX11, by decide, rfl, by decide, inX11, tyX11_ok, nmX11, rfl, by decide +kernel, (fun h => by cases h), Or.inl (gw_t 1173 (by decide +kernel) rfl)⟩
theorem gTT_24 : v_fldP "java/lang/Throwable" 24 11 2 (.object "java/util/List") false := ⟨RX11, TX11, 8, tyX11, by decide, rfl, by decide, inX11, tyX11_ok, nmX11, rfl, by decide +kernel, (fun h => by cases h), Or.inl (gw_t 1174 (by decide +kernel) rfl)⟩
theorem gTT_31 : v_fldP "java/lang/Throwable" 31 11 3 (.object "java/lang/String") false := ⟨RX11, TX11, 8, tyX11, by decide, rfl, by decide, inX11, tyX11_ok, nmX11, rfl, by decide +kernel, (fun h => by cases h), Or.inl (gw_t 1171 (by decide +kernel) rfl)⟩
theorem zTT_13 : Cond.fieldLink "java/lang/Throwable" 13 Bundle.tN "UNASSIGNED_STACK" Bundle.steD ∈ gw := gw_t 1146 (by decide +kernel) rfl
theorem zTT_20 : Cond.fieldLink "java/lang/Throwable" 20 Bundle.tN "SUPPRESSED_SENTINEL" Bundle.listD ∈ gw := gw_t 1148 (by decide +kernel) rfl
theorem oTT : Cond.methodLink "java/lang/Throwable" 1 Lib.objectInit ∈ gw := gw_t 1145 (by decide +kernel) rfl
theorem V_gsq {l : Launch} {s0 : State} {D : va_G} {d mc ms : Nat} {M : MI} {Post : Option Value → AH → Prop} {PX : Nat → String → AH → Prop} {pc idx : Nat} {lv : List (Nat × Value)} {st : List Value} {h : AH} {C n dd : String} (hd : decode M.2.1 pc = .ok (.getstatic idx, 3)) (hZ : vx_Zq C n dd (fun z => s0.heap.size ≤ z) s0 s0.heap) (hlink : Cond.fieldLink M.1.cls idx C n dd ∈ gw) (kk : ∀ v : Value, (v = .null ∨ ∃ a : Nat, v = .ref a) → V l s0 D d mc ms M Post PX (pc + 3) lv (v :: st) h) : V l s0 D d mc ms M Post PX pc lv st h := by
  rcases hZ.1 with h1 | ⟨a, h1⟩
  · exact V_gsi hd h1 hlink (kk _ (Or.inl rfl))
  · exact V_gsi hd h1 hlink (kk _ (Or.inr ⟨a, rfl⟩))
set_option maxRecDepth 100000 in
set_option maxHeartbeats 8000000 in
theorem z_TT {l : Launch} {s0 : State} {D : va_G} {a0 : Array Value} (G2 : GC2 l s0 D a0) (h : AH) {d : Nat} (hd : 1 ≤ d) : Sp l s0 D d 0 0 mTT (fun v h' => v = none ∧ h' = h ++ [.inr (11, [.null, .null, .null, .null, .null, .int 0, .int 0, .int 0])]) v_noX [.ref (s0.heap.size + h.length), .null, .null, .int 0, .int 0] (h ++ [.inr (11, [.null, .null, .null, .null, .null, .int 0, .int 0, .int 0])]) := by
  have G := G2.1
  obtain ⟨d, rfl⟩ : ∃ e, d = e + 1 := ⟨d - 1, by omega⟩
  refine Sp.of (by decide +kernel) rfl (Nat.le_of_ble_eq_true rfl) ?_
  refine V_aload_n dTT_0 rfl ?_
  refine V_objInit dTT_1 oTT oI oC (Nat.le_of_ble_eq_true rfl) ?_
  refine V_aload_n dTT_4 rfl ?_
  refine V_aload_n dTT_5 rfl ?_
  refine Z_putf (j := 0) G dTT_6 gTT_7 rfl rfl rfl (Nat.le_of_ble_eq_true rfl) (fun h => by cases h) rfl ?_
  refine V_aload_n dTT_9 rfl ?_
  refine V_gsq dTT_10 G2.2.2.2.1 zTT_13 (fun v1 hv1 => ?_)
  refine Z_putf (j := 0) G dTT_13 gTT_17 rfl (by rcases hv1 with rfl | ⟨a, rfl⟩ <;> rfl) (by rcases hv1 with rfl | ⟨a, rfl⟩ <;> rfl) (Nat.le_of_ble_eq_true rfl) (fun h => by cases h) rfl ?_
  refine V_aload_n dTT_16 rfl ?_
  refine V_gsq dTT_17 G2.2.2.2.2.1 zTT_20 (fun v2 hv2 => ?_)
  refine Z_putf (j := 0) G dTT_20 gTT_24 rfl (by rcases hv2 with rfl | ⟨a, rfl⟩ <;> rfl) (by rcases hv2 with rfl | ⟨a, rfl⟩ <;> rfl) (Nat.le_of_ble_eq_true rfl) (fun h => by cases h) rfl ?_
  refine V_iload dTT_23 rfl ?_
  refine V_if_eq (tgt := 36) dTT_25 (by decide) (fun c => ?_) (fun c => absurd rfl c)
  refine V_aload_n dTT_36 rfl ?_
  refine V_null dTT_37 ?_
  refine Z_putf (j := 0) G dTT_38 gTT_17 rfl rfl rfl (Nat.le_of_ble_eq_true rfl) (fun h => by cases h) rfl ?_
  refine V_aload_n dTT_41 rfl ?_
  refine V_aload_nN dTT_42 rfl ?_
  refine Z_putf (j := 0) G dTT_43 gTT_31 rfl rfl rfl (Nat.le_of_ble_eq_true rfl) (fun h => by cases h) rfl ?_
  refine V_aload_n dTT_46 rfl ?_
  refine V_aload_nN dTT_47 rfl ?_
  refine Z_putf (j := 0) G dTT_48 gTT_7 rfl rfl rfl (Nat.le_of_ble_eq_true rfl) (fun h => by cases h) rfl ?_
  refine V_iload_n dTT_51 rfl ?_
  refine V_if_ne (tgt := 60) dTT_52 (by decide) (fun c => absurd rfl c) (fun c => ?_)
  refine V_aload_n dTT_55 rfl ?_
  refine V_null dTT_56 ?_
  refine Z_putf (j := 0) G dTT_57 gTT_24 rfl rfl rfl (Nat.le_of_ble_eq_true rfl) (fun h => by cases h) rfl ?_
  exact V_return dTT_60 rfl ⟨rfl, rfl⟩
set_option maxRecDepth 100000 in
set_option maxHeartbeats 8000000 in
theorem z_TE {l : Launch} {s0 : State} {D : va_G} {a0 : Array Value} (G2 : GC2 l s0 D a0) (h : AH) {d : Nat} (hd : 2 ≤ d) : Sp l s0 D d 0 0 mTE (fun v h' => v = none ∧ h' = h ++ [.inr (11, [.null, .null, .null, .null, .null, .int 0, .int 0, .int 0])]) v_noX [.ref (s0.heap.size + h.length), .null, .null, .int 0, .int 0] (h ++ [.inr (11, [.null, .null, .null, .null, .null, .int 0, .int 0, .int 0])]) := by
  have G := G2.1
  obtain ⟨d, rfl⟩ : ∃ e, d = e + 1 := ⟨d - 1, by omega⟩
  refine Sp.of (by decide +kernel) rfl (Nat.le_of_ble_eq_true rfl) ?_
  refine V_aload_n dTE_0 rfl ?_
  refine V_aload_nN dTE_1 rfl ?_
  refine V_aload_nN dTE_2 rfl ?_
  refine V_iload_n dTE_3 rfl ?_
  refine V_iload dTE_4 rfl ?_
  refine V_callI G dTE_6 kTT (z_TT G2 h (by omega)) rfl (Nat.le_of_ble_eq_true rfl) (fun _ _ _ q => q.elim) ?_
  rintro _ _ ⟨rfl, rfl⟩
  exact V_return dTE_9 rfl ⟨rfl, rfl⟩
set_option maxRecDepth 100000 in
set_option maxHeartbeats 8000000 in
theorem z_TU {l : Launch} {s0 : State} {D : va_G} {a0 : Array Value} (G2 : GC2 l s0 D a0) (h : AH) {d : Nat} (hd : 3 ≤ d) : Sp l s0 D d 0 0 mTU (fun v h' => v = none ∧ h' = h ++ [.inr (11, [.null, .null, .null, .null, .null, .int 0, .int 0, .int 0])]) v_noX [.ref (s0.heap.size + h.length), .null, .null, .int 0, .int 0] (h ++ [.inr (11, [.null, .null, .null, .null, .null, .int 0, .int 0, .int 0])]) := by
  have G := G2.1
  obtain ⟨d, rfl⟩ : ∃ e, d = e + 1 := ⟨d - 1, by omega⟩
  refine Sp.of (by decide +kernel) rfl (Nat.le_of_ble_eq_true rfl) ?_
  refine V_aload_n dTU_0 rfl ?_
  refine V_aload_nN dTU_1 rfl ?_
  refine V_aload_nN dTU_2 rfl ?_
  refine V_iload_n dTU_3 rfl ?_
  refine V_iload dTU_4 rfl ?_
  refine V_callI G dTU_6 kTE (z_TE G2 h (by omega)) rfl (Nat.le_of_ble_eq_true rfl) (fun _ _ _ q => q.elim) ?_
  rintro _ _ ⟨rfl, rfl⟩
  exact V_return dTU_9 rfl ⟨rfl, rfl⟩
def at_X11_init (B b : Nat) : AH := [.inr (11, [.null, .null, .null, .null, .null, .int 0, .int 0, .int 0])]
set_option maxRecDepth 100000 in
set_option maxHeartbeats 8000000 in
theorem z_X11_init {l : Launch} {s0 : State} {D : va_G} {a0 : Array Value} (G2 : GC2 l s0 D a0) (h : AH) {d : Nat} (hd : 4 ≤ d) : Sp l s0 D d 0 0 mX11_init (fun v h' => v = none ∧ h' = h ++ at_X11_init s0.heap.size h.length) v_noX [.ref (s0.heap.size + h.length)] (h ++ [.inr (11, [.null, .null, .null, .null, .null, .int 0, .int 0, .int 0])]) := by
  have G := G2.1
  obtain ⟨d, rfl⟩ : ∃ e, d = e + 1 := ⟨d - 1, by omega⟩
  refine Sp.of (by decide +kernel) rfl (Nat.le_of_ble_eq_true rfl) ?_
  refine V_aload_n dX11_init_0 rfl ?_
  refine V_null dX11_init_1 ?_
  refine V_null dX11_init_2 ?_
  refine V_iconst (v := 0) dX11_init_3 (by decide) ?_
  refine V_iconst (v := 0) dX11_init_4 (by decide) ?_
  refine V_callI G dX11_init_5 kTU (z_TU G2 h (by omega)) rfl (Nat.le_of_ble_eq_true rfl) (fun _ _ _ q => q.elim) ?_
  rintro _ _ ⟨rfl, rfl⟩
  exact V_return dX11_init_8 rfl ⟨rfl, rfl⟩

