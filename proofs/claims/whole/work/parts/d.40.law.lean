set_option maxRecDepth 100000 in
set_option maxHeartbeats 4000000 in
theorem w_L_law_L1234 {l : Launch} {s0 : State} {D : va_G} {a0 : Array Value} {f : Nat} {xs : Nat → Int32} {Ln b : Nat} {r : Int32} {d : Nat} (G2 : GC2 l s0 D a0) (hX : va_X b Ln xs s0 s0.heap) (hd : 31 ≤ d + 1) {mc ms : Nat} {k23 : List Sh → St → Int32 → Option Int32} (hk23 : ∀ (sh : List Sh) (S : St) (l4 : Int32), isX8 sh 0 → isX12 sh 94 → sh[158]? = some (.inl (.long, 1)) → k23 sh S l4 = some r → V l s0 D (d + 1) (mc) (ms) mL_law (fun v _ => v = some (.int r)) v_noX 23 [(0, .ref b), (1, .ref (s0.heap.size + 0)), (2, .ref (s0.heap.size + 94)), (3, .ref (s0.heap.size + 158)), (4, .int l4)] [] (wd s0.heap.size sh S)) : ∀ (sh : List Sh) (S : St) (l4 : Int32), isX8 sh 0 → isX12 sh 94 → sh[158]? = some (.inl (.long, 1)) → F_L_law_L1234 f xs Ln k23 sh S l4 = some r → V l s0 D (d + 1) (mc) (ms) mL_law (fun v _ => v = some (.int r)) v_noX 1234 [(0, .ref b), (1, .ref (s0.heap.size + 0)), (2, .ref (s0.heap.size + 94)), (3, .ref (s0.heap.size + 158)), (4, .int l4)] [] (wd s0.heap.size sh S) := by
  have G := G2.1
  intro sh S l4 hx hm ho hF
  unfold F_L_law_L1234 at hF
  obtain ⟨x1, qx1, hF⟩ := bnd_g hF
  refine B_iinc (v := 8) qx1 dL_law_1234 rfl (by decide) (by decide) ?_
  refine V_goto (tgt := 23) dL_law_1237 (by decide) ?_
  exact V_less (by omega) (by omega) (V_lv' (hk23 _ _ _ hx hm ho hF) (v_all_c rfl (v_all_c rfl (v_all_c rfl (v_all_c rfl (v_all_c rfl v_all_n))))))
set_option maxRecDepth 100000 in
set_option maxHeartbeats 4000000 in
theorem w_L_law_L160 {l : Launch} {s0 : State} {D : va_G} {a0 : Array Value} {f : Nat} {xs : Nat → Int32} {Ln b : Nat} {r : Int32} {d : Nat} (G2 : GC2 l s0 D a0) (hX : va_X b Ln xs s0 s0.heap) (hd : 31 ≤ d + 1) {mc ms : Nat} {k23 : List Sh → St → Int32 → Option Int32} (hk23 : ∀ (sh : List Sh) (S : St) (l4 : Int32), isX8 sh 0 → isX12 sh 94 → sh[158]? = some (.inl (.long, 1)) → k23 sh S l4 = some r → V l s0 D (d + 1) (mc) (ms) mL_law (fun v _ => v = some (.int r)) v_noX 23 [(0, .ref b), (1, .ref (s0.heap.size + 0)), (2, .ref (s0.heap.size + 94)), (3, .ref (s0.heap.size + 158)), (4, .int l4)] [] (wd s0.heap.size sh S)) : ∀ (sh : List Sh) (S : St) (l4 : Int32), isX8 sh 0 → isX12 sh 94 → sh[158]? = some (.inl (.long, 1)) → F_L_law_L160 f xs Ln k23 sh S l4 = some r → V l s0 D (d + 1) (mc + 11) (ms + 88) mL_law (fun v _ => v = some (.int r)) v_noX 160 [(0, .ref b), (1, .ref (s0.heap.size + 0)), (2, .ref (s0.heap.size + 94)), (3, .ref (s0.heap.size + 158)), (4, .int l4)] [] (wd s0.heap.size sh S) := by
  have G := G2.1
  intro sh S l4 hx hm ho hF
  unfold F_L_law_L160 at hF
  refine V_aload_n dL_law_160 rfl ?_
  refine V_aload_n dL_law_161 rfl ?_
  refine V_iload dL_law_162 rfl ?_
  refine V_iconst (v := 1) dL_law_164 (by decide) ?_
  refine V_iadd dL_law_165 ?_
  obtain ⟨hz, hF⟩ := gv_out hF
  refine V_sald dL_law_166 hX hz ?_
  refine V_aload_n dL_law_167 rfl ?_
  refine V_iload dL_law_168 rfl ?_
  refine V_iconst (v := 2) dL_law_170 (by decide) ?_
  refine V_iadd dL_law_171 ?_
  obtain ⟨hz, hF⟩ := gv_out hF
  refine V_sald dL_law_172 hX hz ?_
  refine V_aload_n dL_law_173 rfl ?_
  refine V_iload dL_law_174 rfl ?_
  refine V_iconst (v := 3) dL_law_176 (by decide) ?_
  refine V_iadd dL_law_177 ?_
  obtain ⟨hz, hF⟩ := gv_out hF
  refine V_sald dL_law_178 hX hz ?_
  refine V_aload_n dL_law_179 rfl ?_
  refine V_iload dL_law_180 rfl ?_
  refine V_iconst (v := 4) dL_law_182 (by decide) ?_
  refine V_iadd dL_law_183 ?_
  obtain ⟨hz, hF⟩ := gv_out hF
  refine V_sald dL_law_184 hX hz ?_
  refine V_aload_n dL_law_185 rfl ?_
  refine V_iload dL_law_186 rfl ?_
  refine V_iconst (v := 5) dL_law_188 (by decide) ?_
  refine V_iadd dL_law_189 ?_
  obtain ⟨hz, hF⟩ := gv_out hF
  refine V_sald dL_law_190 hX hz ?_
  obtain ⟨y1, hc, hF⟩ := bd hF
  refine V_callV0 (as := [.int (xs (l4 + (1 : Int32)).toNatClampNeg), .int (xs (l4 + (2 : Int32)).toNatClampNeg), .int (xs (l4 + (3 : Int32)).toNatClampNeg), .int (xs (l4 + (4 : Int32)).toNatClampNeg), .int (xs (l4 + (5 : Int32)).toNatClampNeg)]) G dL_law_191 kL_19 (wd_at hx.1) ⟨by decide, rfl⟩ (s_X8_feed hx G hc (by omega)) rfl (Nat.le_of_ble_eq_true rfl) (fun _ _ _ q => q.elim) ?_
  rintro _ _ ⟨rfl, rfl⟩
  refine V_aload_n dL_law_194 rfl ?_
  refine V_aload_n dL_law_195 rfl ?_
  refine V_iload dL_law_196 rfl ?_
  refine V_iconst (v := 1) dL_law_198 (by decide) ?_
  refine V_iadd dL_law_199 ?_
  obtain ⟨hz, hF⟩ := gv_out hF
  refine V_sald dL_law_200 hX hz ?_
  refine V_aload_n dL_law_201 rfl ?_
  refine V_iload dL_law_202 rfl ?_
  refine V_iconst (v := 2) dL_law_204 (by decide) ?_
  refine V_iadd dL_law_205 ?_
  obtain ⟨hz, hF⟩ := gv_out hF
  refine V_sald dL_law_206 hX hz ?_
  refine V_aload_n dL_law_207 rfl ?_
  refine V_iload dL_law_208 rfl ?_
  refine V_iconst (v := 3) dL_law_210 (by decide) ?_
  refine V_iadd dL_law_211 ?_
  obtain ⟨hz, hF⟩ := gv_out hF
  refine V_sald dL_law_212 hX hz ?_
  refine V_aload_n dL_law_213 rfl ?_
  refine V_iload dL_law_214 rfl ?_
  refine V_iconst (v := 4) dL_law_216 (by decide) ?_
  refine V_iadd dL_law_217 ?_
  obtain ⟨hz, hF⟩ := gv_out hF
  refine V_sald dL_law_218 hX hz ?_
  refine V_aload_n dL_law_219 rfl ?_
  refine V_iload dL_law_220 rfl ?_
  refine V_iconst (v := 5) dL_law_222 (by decide) ?_
  refine V_iadd dL_law_223 ?_
  obtain ⟨hz, hF⟩ := gv_out hF
  refine V_sald dL_law_224 hX hz ?_
  obtain ⟨y2, hc, hF⟩ := bd hF
  refine V_callV0 (as := [.int (xs (l4 + (1 : Int32)).toNatClampNeg), .int (xs (l4 + (2 : Int32)).toNatClampNeg), .int (xs (l4 + (3 : Int32)).toNatClampNeg), .int (xs (l4 + (4 : Int32)).toNatClampNeg), .int (xs (l4 + (5 : Int32)).toNatClampNeg)]) G dL_law_225 kL_23 (wd_at hm.1) ⟨by decide, rfl⟩ (s_X12_feed hm G hc (by omega)) rfl (Nat.le_of_ble_eq_true rfl) (fun _ _ _ q => q.elim) ?_
  rintro _ _ ⟨rfl, rfl⟩
  refine V_icmp_eq (tgt := 1234) dL_law_228 (by decide) (fun c => ?_) (fun c => ?_)
  · replace hF := (if_pos c).symm.trans hF
    exact V_less (by omega) (by omega) (V_lv' (w_L_law_L1234 G2 hX hd hk23 _ _ _ hx hm ho hF) (v_all_c rfl (v_all_c rfl (v_all_c rfl (v_all_c rfl (v_all_c rfl v_all_n))))))
  · replace hF := (if_neg c).symm.trans hF
    refine V_iconst (v := 0) dL_law_231 (by decide) ?_
    cases hF
    exact V_ireturn dL_law_232 rfl (by decide) rfl
set_option maxRecDepth 100000 in
set_option maxHeartbeats 4000000 in
theorem w_L_law_L233 {l : Launch} {s0 : State} {D : va_G} {a0 : Array Value} {f : Nat} {xs : Nat → Int32} {Ln b : Nat} {r : Int32} {d : Nat} (G2 : GC2 l s0 D a0) (hX : va_X b Ln xs s0 s0.heap) (hd : 31 ≤ d + 1) {mc ms : Nat} {k23 : List Sh → St → Int32 → Option Int32} (hk23 : ∀ (sh : List Sh) (S : St) (l4 : Int32), isX8 sh 0 → isX12 sh 94 → sh[158]? = some (.inl (.long, 1)) → k23 sh S l4 = some r → V l s0 D (d + 1) (mc) (ms) mL_law (fun v _ => v = some (.int r)) v_noX 23 [(0, .ref b), (1, .ref (s0.heap.size + 0)), (2, .ref (s0.heap.size + 94)), (3, .ref (s0.heap.size + 158)), (4, .int l4)] [] (wd s0.heap.size sh S)) : ∀ (sh : List Sh) (S : St) (l4 : Int32), isX8 sh 0 → isX12 sh 94 → sh[158]? = some (.inl (.long, 1)) → F_L_law_L233 f xs Ln k23 sh S l4 = some r → V l s0 D (d + 1) (mc + 11) (ms + 88) mL_law (fun v _ => v = some (.int r)) v_noX 233 [(0, .ref b), (1, .ref (s0.heap.size + 0)), (2, .ref (s0.heap.size + 94)), (3, .ref (s0.heap.size + 158)), (4, .int l4)] [] (wd s0.heap.size sh S) := by
  have G := G2.1
  intro sh S l4 hx hm ho hF
  unfold F_L_law_L233 at hF
  refine V_aload_n dL_law_233 rfl ?_
  refine V_aload_n dL_law_234 rfl ?_
  refine V_iload dL_law_235 rfl ?_
  refine V_iconst (v := 1) dL_law_237 (by decide) ?_
  refine V_iadd dL_law_238 ?_
  obtain ⟨hz, hF⟩ := gv_out hF
  refine V_sald dL_law_239 hX hz ?_
  obtain ⟨y1, hc, hF⟩ := bd hF
  refine V_callV0 (as := [.int (xs (l4 + (1 : Int32)).toNatClampNeg)]) G dL_law_240 kL_24 (wd_at hx.1) ⟨by decide, rfl⟩ (s_X8_book hx G hc (by omega)) rfl (Nat.le_of_ble_eq_true rfl) (fun _ _ _ q => q.elim) ?_
  rintro _ _ ⟨rfl, rfl⟩
  refine V_aload_n dL_law_243 rfl ?_
  refine V_aload_n dL_law_244 rfl ?_
  refine V_iload dL_law_245 rfl ?_
  refine V_iconst (v := 1) dL_law_247 (by decide) ?_
  refine V_iadd dL_law_248 ?_
  obtain ⟨hz, hF⟩ := gv_out hF
  refine V_sald dL_law_249 hX hz ?_
  obtain ⟨y2, hc, hF⟩ := bd hF
  refine V_callVH (as := [.int (xs (l4 + (1 : Int32)).toNatClampNeg)]) G dL_law_250 bX12_book lkL_28 inX12_book seX12_book (wd_at hm.1) ⟨by decide, rfl⟩ (s_X12_book hm G2 hc (by omega)) rfl (Nat.le_of_ble_eq_true rfl) (fun _ _ _ q => q.elim) ?_
  rintro _ _ ⟨rfl, rfl⟩
  obtain ⟨hz, hF⟩ := gv_out hF
  replace hz := Decidable.not_not.mp hz
  obtain ⟨sh, qsh, hF⟩ := bnd_g hF
  rw [qsh] at hz ⊢
  replace hx := sh_or (P := fun s => isX8 s 0) hz hx isX8_app
  replace hm := sh_or (P := fun s => isX12 s 94) hz hm isX12_app
  replace ho := sh_or (P := fun s => s[158]? = some (.inl (.long, 1))) hz ho ga
  refine V_icmp_eq (tgt := 1234) dL_law_253 (by decide) (fun c => ?_) (fun c => ?_)
  · replace hF := (if_pos c).symm.trans hF
    exact V_less (by omega) (by omega) (V_lv' (w_L_law_L1234 G2 hX hd hk23 _ _ _ hx hm ho hF) (v_all_c rfl (v_all_c rfl (v_all_c rfl (v_all_c rfl (v_all_c rfl v_all_n))))))
  · replace hF := (if_neg c).symm.trans hF
    refine V_iconst (v := 0) dL_law_256 (by decide) ?_
    cases hF
    exact V_ireturn dL_law_257 rfl (by decide) rfl
set_option maxRecDepth 100000 in
set_option maxHeartbeats 4000000 in
theorem w_L_law_L258 {l : Launch} {s0 : State} {D : va_G} {a0 : Array Value} {f : Nat} {xs : Nat → Int32} {Ln b : Nat} {r : Int32} {d : Nat} (G2 : GC2 l s0 D a0) (hX : va_X b Ln xs s0 s0.heap) (hd : 31 ≤ d + 1) {mc ms : Nat} {k23 : List Sh → St → Int32 → Option Int32} (hk23 : ∀ (sh : List Sh) (S : St) (l4 : Int32), isX8 sh 0 → isX12 sh 94 → sh[158]? = some (.inl (.long, 1)) → k23 sh S l4 = some r → V l s0 D (d + 1) (mc) (ms) mL_law (fun v _ => v = some (.int r)) v_noX 23 [(0, .ref b), (1, .ref (s0.heap.size + 0)), (2, .ref (s0.heap.size + 94)), (3, .ref (s0.heap.size + 158)), (4, .int l4)] [] (wd s0.heap.size sh S)) : ∀ (sh : List Sh) (S : St) (l4 : Int32), isX8 sh 0 → isX12 sh 94 → sh[158]? = some (.inl (.long, 1)) → F_L_law_L258 f xs Ln k23 sh S l4 = some r → V l s0 D (d + 1) (mc + 11) (ms + 88) mL_law (fun v _ => v = some (.int r)) v_noX 258 [(0, .ref b), (1, .ref (s0.heap.size + 0)), (2, .ref (s0.heap.size + 94)), (3, .ref (s0.heap.size + 158)), (4, .int l4)] [] (wd s0.heap.size sh S) := by
  have G := G2.1
  intro sh S l4 hx hm ho hF
  unfold F_L_law_L258 at hF
  refine V_aload_n dL_law_258 rfl ?_
  obtain ⟨y1, hc, hF⟩ := bd hF
  refine V_callV0 (as := []) G dL_law_259 kL_29 (wd_at hx.1) ⟨by decide, rfl⟩ (s_X8_fault hx G hc (by omega)) rfl (Nat.le_of_ble_eq_true rfl) (fun _ _ _ q => q.elim) ?_
  rintro _ _ ⟨rfl, rfl⟩
  refine V_aload_n dL_law_262 rfl ?_
  obtain ⟨y2, hc, hF⟩ := bd hF
  refine V_callV0 (as := []) G dL_law_263 kL_33 (wd_at hm.1) ⟨by decide, rfl⟩ (s_X12_fault hm G hc (by omega)) rfl (Nat.le_of_ble_eq_true rfl) (fun _ _ _ q => q.elim) ?_
  rintro _ _ ⟨rfl, rfl⟩
  refine V_icmp_eq (tgt := 1234) dL_law_266 (by decide) (fun c => ?_) (fun c => ?_)
  · replace hF := (if_pos c).symm.trans hF
    exact V_less (by omega) (by omega) (V_lv' (w_L_law_L1234 G2 hX hd hk23 _ _ _ hx hm ho hF) (v_all_c rfl (v_all_c rfl (v_all_c rfl (v_all_c rfl (v_all_c rfl v_all_n))))))
  · replace hF := (if_neg c).symm.trans hF
    refine V_iconst (v := 0) dL_law_269 (by decide) ?_
    cases hF
    exact V_ireturn dL_law_270 rfl (by decide) rfl
set_option maxRecDepth 100000 in
set_option maxHeartbeats 4000000 in
theorem w_L_law_L271 {l : Launch} {s0 : State} {D : va_G} {a0 : Array Value} {f : Nat} {xs : Nat → Int32} {Ln b : Nat} {r : Int32} {d : Nat} (G2 : GC2 l s0 D a0) (hX : va_X b Ln xs s0 s0.heap) (hd : 31 ≤ d + 1) {mc ms : Nat} {k23 : List Sh → St → Int32 → Option Int32} (hk23 : ∀ (sh : List Sh) (S : St) (l4 : Int32), isX8 sh 0 → isX12 sh 94 → sh[158]? = some (.inl (.long, 1)) → k23 sh S l4 = some r → V l s0 D (d + 1) (mc) (ms) mL_law (fun v _ => v = some (.int r)) v_noX 23 [(0, .ref b), (1, .ref (s0.heap.size + 0)), (2, .ref (s0.heap.size + 94)), (3, .ref (s0.heap.size + 158)), (4, .int l4)] [] (wd s0.heap.size sh S)) : ∀ (sh : List Sh) (S : St) (l4 : Int32), isX8 sh 0 → isX12 sh 94 → sh[158]? = some (.inl (.long, 1)) → F_L_law_L271 f xs Ln k23 sh S l4 = some r → V l s0 D (d + 1) (mc + 11) (ms + 88) mL_law (fun v _ => v = some (.int r)) v_noX 271 [(0, .ref b), (1, .ref (s0.heap.size + 0)), (2, .ref (s0.heap.size + 94)), (3, .ref (s0.heap.size + 158)), (4, .int l4)] [] (wd s0.heap.size sh S) := by
  have G := G2.1
  intro sh S l4 hx hm ho hF
  unfold F_L_law_L271 at hF
  refine V_aload_n dL_law_271 rfl ?_
  obtain ⟨y1, hc, hF⟩ := bd hF
  refine V_callV0 (as := []) G dL_law_272 kL_34 (wd_at hx.1) ⟨by decide, rfl⟩ (s_X8_where hx G hc (by omega)) rfl (Nat.le_of_ble_eq_true rfl) (fun _ _ _ q => q.elim) ?_
  rintro _ _ ⟨rfl, rfl⟩
  refine V_aload_n dL_law_275 rfl ?_
  obtain ⟨y2, hc, hF⟩ := bd hF
  refine V_callV0 (as := []) G dL_law_276 kL_37 (wd_at hm.1) ⟨by decide, rfl⟩ (s_X12_where hm G hc (by omega)) rfl (Nat.le_of_ble_eq_true rfl) (fun _ _ _ q => q.elim) ?_
  rintro _ _ ⟨rfl, rfl⟩
  refine V_icmp_eq (tgt := 1234) dL_law_279 (by decide) (fun c => ?_) (fun c => ?_)
  · replace hF := (if_pos c).symm.trans hF
    exact V_less (by omega) (by omega) (V_lv' (w_L_law_L1234 G2 hX hd hk23 _ _ _ hx hm ho hF) (v_all_c rfl (v_all_c rfl (v_all_c rfl (v_all_c rfl (v_all_c rfl v_all_n))))))
  · replace hF := (if_neg c).symm.trans hF
    refine V_iconst (v := 0) dL_law_282 (by decide) ?_
    cases hF
    exact V_ireturn dL_law_283 rfl (by decide) rfl
set_option maxRecDepth 100000 in
set_option maxHeartbeats 4000000 in
theorem w_L_law_L284 {l : Launch} {s0 : State} {D : va_G} {a0 : Array Value} {f : Nat} {xs : Nat → Int32} {Ln b : Nat} {r : Int32} {d : Nat} (G2 : GC2 l s0 D a0) (hX : va_X b Ln xs s0 s0.heap) (hd : 31 ≤ d + 1) {mc ms : Nat} {k23 : List Sh → St → Int32 → Option Int32} (hk23 : ∀ (sh : List Sh) (S : St) (l4 : Int32), isX8 sh 0 → isX12 sh 94 → sh[158]? = some (.inl (.long, 1)) → k23 sh S l4 = some r → V l s0 D (d + 1) (mc) (ms) mL_law (fun v _ => v = some (.int r)) v_noX 23 [(0, .ref b), (1, .ref (s0.heap.size + 0)), (2, .ref (s0.heap.size + 94)), (3, .ref (s0.heap.size + 158)), (4, .int l4)] [] (wd s0.heap.size sh S)) : ∀ (sh : List Sh) (S : St) (l4 : Int32), isX8 sh 0 → isX12 sh 94 → sh[158]? = some (.inl (.long, 1)) → F_L_law_L284 f xs Ln k23 sh S l4 = some r → V l s0 D (d + 1) (mc + 11) (ms + 88) mL_law (fun v _ => v = some (.int r)) v_noX 284 [(0, .ref b), (1, .ref (s0.heap.size + 0)), (2, .ref (s0.heap.size + 94)), (3, .ref (s0.heap.size + 158)), (4, .int l4)] [] (wd s0.heap.size sh S) := by
  have G := G2.1
  intro sh S l4 hx hm ho hF
  unfold F_L_law_L284 at hF
  refine V_aload_n dL_law_284 rfl ?_
  refine V_aload_n dL_law_285 rfl ?_
  refine V_iload dL_law_286 rfl ?_
  refine V_iconst (v := 1) dL_law_288 (by decide) ?_
  refine V_iadd dL_law_289 ?_
  obtain ⟨hz, hF⟩ := gv_out hF
  refine V_sald dL_law_290 hX hz ?_
  refine V_aload_n dL_law_291 rfl ?_
  refine V_iload dL_law_292 rfl ?_
  refine V_iconst (v := 2) dL_law_294 (by decide) ?_
  refine V_iadd dL_law_295 ?_
  obtain ⟨hz, hF⟩ := gv_out hF
  refine V_sald dL_law_296 hX hz ?_
  obtain ⟨y1, hc, hF⟩ := bd hF
  refine V_callV0 (as := [.int (xs (l4 + (1 : Int32)).toNatClampNeg), .int (xs (l4 + (2 : Int32)).toNatClampNeg)]) G dL_law_297 kL_38 (wd_at hx.1) ⟨by decide, rfl⟩ (s_X8_kind hx G hc (by omega)) rfl (Nat.le_of_ble_eq_true rfl) (fun _ _ _ q => q.elim) ?_
  rintro _ _ ⟨rfl, rfl⟩
  refine V_aload_n dL_law_300 rfl ?_
  refine V_aload_n dL_law_301 rfl ?_
  refine V_iload dL_law_302 rfl ?_
  refine V_iconst (v := 1) dL_law_304 (by decide) ?_
  refine V_iadd dL_law_305 ?_
  obtain ⟨hz, hF⟩ := gv_out hF
  refine V_sald dL_law_306 hX hz ?_
  refine V_aload_n dL_law_307 rfl ?_
  refine V_iload dL_law_308 rfl ?_
  refine V_iconst (v := 2) dL_law_310 (by decide) ?_
  refine V_iadd dL_law_311 ?_
  obtain ⟨hz, hF⟩ := gv_out hF
  refine V_sald dL_law_312 hX hz ?_
  obtain ⟨y2, hc, hF⟩ := bd hF
  refine V_callV0 (as := [.int (xs (l4 + (1 : Int32)).toNatClampNeg), .int (xs (l4 + (2 : Int32)).toNatClampNeg)]) G dL_law_313 kL_41 (wd_at hm.1) ⟨by decide, rfl⟩ (s_X12_kind hm G hc (by omega)) rfl (Nat.le_of_ble_eq_true rfl) (fun _ _ _ q => q.elim) ?_
  rintro _ _ ⟨rfl, rfl⟩
  refine V_icmp_eq (tgt := 1234) dL_law_316 (by decide) (fun c => ?_) (fun c => ?_)
  · replace hF := (if_pos c).symm.trans hF
    exact V_less (by omega) (by omega) (V_lv' (w_L_law_L1234 G2 hX hd hk23 _ _ _ hx hm ho hF) (v_all_c rfl (v_all_c rfl (v_all_c rfl (v_all_c rfl (v_all_c rfl v_all_n))))))
  · replace hF := (if_neg c).symm.trans hF
    refine V_iconst (v := 0) dL_law_319 (by decide) ?_
    cases hF
    exact V_ireturn dL_law_320 rfl (by decide) rfl
set_option maxRecDepth 100000 in
set_option maxHeartbeats 4000000 in
theorem w_L_law_L321 {l : Launch} {s0 : State} {D : va_G} {a0 : Array Value} {f : Nat} {xs : Nat → Int32} {Ln b : Nat} {r : Int32} {d : Nat} (G2 : GC2 l s0 D a0) (hX : va_X b Ln xs s0 s0.heap) (hd : 31 ≤ d + 1) {mc ms : Nat} {k23 : List Sh → St → Int32 → Option Int32} (hk23 : ∀ (sh : List Sh) (S : St) (l4 : Int32), isX8 sh 0 → isX12 sh 94 → sh[158]? = some (.inl (.long, 1)) → k23 sh S l4 = some r → V l s0 D (d + 1) (mc) (ms) mL_law (fun v _ => v = some (.int r)) v_noX 23 [(0, .ref b), (1, .ref (s0.heap.size + 0)), (2, .ref (s0.heap.size + 94)), (3, .ref (s0.heap.size + 158)), (4, .int l4)] [] (wd s0.heap.size sh S)) : ∀ (sh : List Sh) (S : St) (l4 : Int32), isX8 sh 0 → isX12 sh 94 → sh[158]? = some (.inl (.long, 1)) → F_L_law_L321 f xs Ln k23 sh S l4 = some r → V l s0 D (d + 1) (mc + 11) (ms + 88) mL_law (fun v _ => v = some (.int r)) v_noX 321 [(0, .ref b), (1, .ref (s0.heap.size + 0)), (2, .ref (s0.heap.size + 94)), (3, .ref (s0.heap.size + 158)), (4, .int l4)] [] (wd s0.heap.size sh S) := by
  have G := G2.1
  intro sh S l4 hx hm ho hF
  unfold F_L_law_L321 at hF
  refine V_aload_n dL_law_321 rfl ?_
  refine V_aload_n dL_law_322 rfl ?_
  refine V_iload dL_law_323 rfl ?_
  refine V_iconst (v := 1) dL_law_325 (by decide) ?_
  refine V_iadd dL_law_326 ?_
  obtain ⟨hz, hF⟩ := gv_out hF
  refine V_sald dL_law_327 hX hz ?_
  refine V_aload_n dL_law_328 rfl ?_
  refine V_iload dL_law_329 rfl ?_
  refine V_iconst (v := 2) dL_law_331 (by decide) ?_
  refine V_iadd dL_law_332 ?_
  obtain ⟨hz, hF⟩ := gv_out hF
  refine V_sald dL_law_333 hX hz ?_
  obtain ⟨y1, hc, hF⟩ := bd hF
  refine V_callV0 (as := [.int (xs (l4 + (1 : Int32)).toNatClampNeg), .int (xs (l4 + (2 : Int32)).toNatClampNeg)]) G dL_law_334 kL_42 (wd_at hx.1) ⟨by decide, rfl⟩ (s_X8_rule hx G hc (by omega)) rfl (Nat.le_of_ble_eq_true rfl) (fun _ _ _ q => q.elim) ?_
  rintro _ _ ⟨rfl, rfl⟩
  refine V_aload_n dL_law_337 rfl ?_
  refine V_aload_n dL_law_338 rfl ?_
  refine V_iload dL_law_339 rfl ?_
  refine V_iconst (v := 1) dL_law_341 (by decide) ?_
  refine V_iadd dL_law_342 ?_
  obtain ⟨hz, hF⟩ := gv_out hF
  refine V_sald dL_law_343 hX hz ?_
  refine V_aload_n dL_law_344 rfl ?_
  refine V_iload dL_law_345 rfl ?_
  refine V_iconst (v := 2) dL_law_347 (by decide) ?_
  refine V_iadd dL_law_348 ?_
  obtain ⟨hz, hF⟩ := gv_out hF
  refine V_sald dL_law_349 hX hz ?_
  obtain ⟨y2, hc, hF⟩ := bd hF
  refine V_callV0 (as := [.int (xs (l4 + (1 : Int32)).toNatClampNeg), .int (xs (l4 + (2 : Int32)).toNatClampNeg)]) G dL_law_350 kL_45 (wd_at hm.1) ⟨by decide, rfl⟩ (s_X12_rule hm G hc (by omega)) rfl (Nat.le_of_ble_eq_true rfl) (fun _ _ _ q => q.elim) ?_
  rintro _ _ ⟨rfl, rfl⟩
  refine V_icmp_eq (tgt := 1234) dL_law_353 (by decide) (fun c => ?_) (fun c => ?_)
  · replace hF := (if_pos c).symm.trans hF
    exact V_less (by omega) (by omega) (V_lv' (w_L_law_L1234 G2 hX hd hk23 _ _ _ hx hm ho hF) (v_all_c rfl (v_all_c rfl (v_all_c rfl (v_all_c rfl (v_all_c rfl v_all_n))))))
  · replace hF := (if_neg c).symm.trans hF
    refine V_iconst (v := 0) dL_law_356 (by decide) ?_
    cases hF
    exact V_ireturn dL_law_357 rfl (by decide) rfl
set_option maxRecDepth 100000 in
set_option maxHeartbeats 4000000 in
theorem w_L_law_L358 {l : Launch} {s0 : State} {D : va_G} {a0 : Array Value} {f : Nat} {xs : Nat → Int32} {Ln b : Nat} {r : Int32} {d : Nat} (G2 : GC2 l s0 D a0) (hX : va_X b Ln xs s0 s0.heap) (hd : 31 ≤ d + 1) {mc ms : Nat} {k23 : List Sh → St → Int32 → Option Int32} (hk23 : ∀ (sh : List Sh) (S : St) (l4 : Int32), isX8 sh 0 → isX12 sh 94 → sh[158]? = some (.inl (.long, 1)) → k23 sh S l4 = some r → V l s0 D (d + 1) (mc) (ms) mL_law (fun v _ => v = some (.int r)) v_noX 23 [(0, .ref b), (1, .ref (s0.heap.size + 0)), (2, .ref (s0.heap.size + 94)), (3, .ref (s0.heap.size + 158)), (4, .int l4)] [] (wd s0.heap.size sh S)) : ∀ (sh : List Sh) (S : St) (l4 : Int32), isX8 sh 0 → isX12 sh 94 → sh[158]? = some (.inl (.long, 1)) → F_L_law_L358 f xs Ln k23 sh S l4 = some r → V l s0 D (d + 1) (mc + 11) (ms + 88) mL_law (fun v _ => v = some (.int r)) v_noX 358 [(0, .ref b), (1, .ref (s0.heap.size + 0)), (2, .ref (s0.heap.size + 94)), (3, .ref (s0.heap.size + 158)), (4, .int l4)] [] (wd s0.heap.size sh S) := by
  have G := G2.1
  intro sh S l4 hx hm ho hF
  unfold F_L_law_L358 at hF
  refine V_aload_n dL_law_358 rfl ?_
  refine V_aload_n dL_law_359 rfl ?_
  refine V_iload dL_law_360 rfl ?_
  refine V_iconst (v := 1) dL_law_362 (by decide) ?_
  refine V_iadd dL_law_363 ?_
  obtain ⟨hz, hF⟩ := gv_out hF
  refine V_sald dL_law_364 hX hz ?_
  refine V_aload_n dL_law_365 rfl ?_
  refine V_iload dL_law_366 rfl ?_
  refine V_iconst (v := 2) dL_law_368 (by decide) ?_
  refine V_iadd dL_law_369 ?_
  obtain ⟨hz, hF⟩ := gv_out hF
  refine V_sald dL_law_370 hX hz ?_
  refine V_aload_n dL_law_371 rfl ?_
  refine V_iload dL_law_372 rfl ?_
  refine V_iconst (v := 3) dL_law_374 (by decide) ?_
  refine V_iadd dL_law_375 ?_
  obtain ⟨hz, hF⟩ := gv_out hF
  refine V_sald dL_law_376 hX hz ?_
  refine V_aload_n dL_law_377 rfl ?_
  refine V_iload dL_law_378 rfl ?_
  refine V_iconst (v := 4) dL_law_380 (by decide) ?_
  refine V_iadd dL_law_381 ?_
  obtain ⟨hz, hF⟩ := gv_out hF
  refine V_sald dL_law_382 hX hz ?_
  refine V_aload_n dL_law_383 rfl ?_
  refine V_iload dL_law_384 rfl ?_
  refine V_iconst (v := 5) dL_law_386 (by decide) ?_
  refine V_iadd dL_law_387 ?_
  obtain ⟨hz, hF⟩ := gv_out hF
  refine V_sald dL_law_388 hX hz ?_
  refine V_aload_n dL_law_389 rfl ?_
  refine V_iload dL_law_390 rfl ?_
  refine V_bipush (v := 6) dL_law_392 (by decide) ?_
  refine V_iadd dL_law_394 ?_
  obtain ⟨hz, hF⟩ := gv_out hF
  refine V_sald dL_law_395 hX hz ?_
  obtain ⟨y1, hc, hF⟩ := bd hF
  refine V_callV0 (as := [.int (xs (l4 + (1 : Int32)).toNatClampNeg), .int (xs (l4 + (2 : Int32)).toNatClampNeg), .int (xs (l4 + (3 : Int32)).toNatClampNeg), .int (xs (l4 + (4 : Int32)).toNatClampNeg), .int (xs (l4 + (5 : Int32)).toNatClampNeg), .int (xs (l4 + (6 : Int32)).toNatClampNeg)]) G dL_law_396 kL_46 (wd_at hx.1) ⟨by decide, rfl⟩ (s_X8_meeting hx G hc (by omega)) rfl (Nat.le_of_ble_eq_true rfl) (fun _ _ _ q => q.elim) ?_
  rintro _ _ ⟨rfl, rfl⟩
  refine V_aload_n dL_law_399 rfl ?_
  refine V_aload_n dL_law_400 rfl ?_
  refine V_iload dL_law_401 rfl ?_
  refine V_iconst (v := 1) dL_law_403 (by decide) ?_
  refine V_iadd dL_law_404 ?_
  obtain ⟨hz, hF⟩ := gv_out hF
  refine V_sald dL_law_405 hX hz ?_
  refine V_aload_n dL_law_406 rfl ?_
  refine V_iload dL_law_407 rfl ?_
  refine V_iconst (v := 2) dL_law_409 (by decide) ?_
  refine V_iadd dL_law_410 ?_
  obtain ⟨hz, hF⟩ := gv_out hF
  refine V_sald dL_law_411 hX hz ?_
  refine V_aload_n dL_law_412 rfl ?_
  refine V_iload dL_law_413 rfl ?_
  refine V_iconst (v := 3) dL_law_415 (by decide) ?_
  refine V_iadd dL_law_416 ?_
  obtain ⟨hz, hF⟩ := gv_out hF
  refine V_sald dL_law_417 hX hz ?_
  refine V_aload_n dL_law_418 rfl ?_
  refine V_iload dL_law_419 rfl ?_
  refine V_iconst (v := 4) dL_law_421 (by decide) ?_
  refine V_iadd dL_law_422 ?_
  obtain ⟨hz, hF⟩ := gv_out hF
  refine V_sald dL_law_423 hX hz ?_
  refine V_aload_n dL_law_424 rfl ?_
  refine V_iload dL_law_425 rfl ?_
  refine V_iconst (v := 5) dL_law_427 (by decide) ?_
  refine V_iadd dL_law_428 ?_
  obtain ⟨hz, hF⟩ := gv_out hF
  refine V_sald dL_law_429 hX hz ?_
  refine V_aload_n dL_law_430 rfl ?_
  refine V_iload dL_law_431 rfl ?_
  refine V_bipush (v := 6) dL_law_433 (by decide) ?_
  refine V_iadd dL_law_435 ?_
  obtain ⟨hz, hF⟩ := gv_out hF
  refine V_sald dL_law_436 hX hz ?_
  obtain ⟨y2, hc, hF⟩ := bd hF
  refine V_callV0 (as := [.int (xs (l4 + (1 : Int32)).toNatClampNeg), .int (xs (l4 + (2 : Int32)).toNatClampNeg), .int (xs (l4 + (3 : Int32)).toNatClampNeg), .int (xs (l4 + (4 : Int32)).toNatClampNeg), .int (xs (l4 + (5 : Int32)).toNatClampNeg), .int (xs (l4 + (6 : Int32)).toNatClampNeg)]) G dL_law_437 kL_50 (wd_at hm.1) ⟨by decide, rfl⟩ (s_X12_meeting hm G hc (by omega)) rfl (Nat.le_of_ble_eq_true rfl) (fun _ _ _ q => q.elim) ?_
  rintro _ _ ⟨rfl, rfl⟩
  refine V_icmp_eq (tgt := 1234) dL_law_440 (by decide) (fun c => ?_) (fun c => ?_)
  · replace hF := (if_pos c).symm.trans hF
    exact V_less (by omega) (by omega) (V_lv' (w_L_law_L1234 G2 hX hd hk23 _ _ _ hx hm ho hF) (v_all_c rfl (v_all_c rfl (v_all_c rfl (v_all_c rfl (v_all_c rfl v_all_n))))))
  · replace hF := (if_neg c).symm.trans hF
    refine V_iconst (v := 0) dL_law_443 (by decide) ?_
    cases hF
    exact V_ireturn dL_law_444 rfl (by decide) rfl
set_option maxRecDepth 100000 in
set_option maxHeartbeats 4000000 in
theorem w_L_law_L445 {l : Launch} {s0 : State} {D : va_G} {a0 : Array Value} {f : Nat} {xs : Nat → Int32} {Ln b : Nat} {r : Int32} {d : Nat} (G2 : GC2 l s0 D a0) (hX : va_X b Ln xs s0 s0.heap) (hd : 31 ≤ d + 1) {mc ms : Nat} {k23 : List Sh → St → Int32 → Option Int32} (hk23 : ∀ (sh : List Sh) (S : St) (l4 : Int32), isX8 sh 0 → isX12 sh 94 → sh[158]? = some (.inl (.long, 1)) → k23 sh S l4 = some r → V l s0 D (d + 1) (mc) (ms) mL_law (fun v _ => v = some (.int r)) v_noX 23 [(0, .ref b), (1, .ref (s0.heap.size + 0)), (2, .ref (s0.heap.size + 94)), (3, .ref (s0.heap.size + 158)), (4, .int l4)] [] (wd s0.heap.size sh S)) : ∀ (sh : List Sh) (S : St) (l4 : Int32), isX8 sh 0 → isX12 sh 94 → sh[158]? = some (.inl (.long, 1)) → F_L_law_L445 f xs Ln k23 sh S l4 = some r → V l s0 D (d + 1) (mc + 11) (ms + 88) mL_law (fun v _ => v = some (.int r)) v_noX 445 [(0, .ref b), (1, .ref (s0.heap.size + 0)), (2, .ref (s0.heap.size + 94)), (3, .ref (s0.heap.size + 158)), (4, .int l4)] [] (wd s0.heap.size sh S) := by
  have G := G2.1
  intro sh S l4 hx hm ho hF
  unfold F_L_law_L445 at hF
  refine V_aload_n dL_law_445 rfl ?_
  refine V_aload_n dL_law_446 rfl ?_
  refine V_iload dL_law_447 rfl ?_
  refine V_iconst (v := 1) dL_law_449 (by decide) ?_
  refine V_iadd dL_law_450 ?_
  obtain ⟨hz, hF⟩ := gv_out hF
  refine V_sald dL_law_451 hX hz ?_
  obtain ⟨y1, hc, hF⟩ := bd hF
  refine V_callV0 (as := [.int (xs (l4 + (1 : Int32)).toNatClampNeg)]) G dL_law_452 kL_51 (wd_at hx.1) ⟨by decide, rfl⟩ (s_X8_drawings hx G hc (by omega)) rfl (Nat.le_of_ble_eq_true rfl) (fun _ _ _ q => q.elim) ?_
  rintro _ _ ⟨rfl, rfl⟩
  refine V_aload_n dL_law_455 rfl ?_
  refine V_aload_n dL_law_456 rfl ?_
  refine V_iload dL_law_457 rfl ?_
  refine V_iconst (v := 1) dL_law_459 (by decide) ?_
  refine V_iadd dL_law_460 ?_
  obtain ⟨hz, hF⟩ := gv_out hF
  refine V_sald dL_law_461 hX hz ?_
  obtain ⟨y2, hc, hF⟩ := bd hF
  refine V_callV0 (as := [.int (xs (l4 + (1 : Int32)).toNatClampNeg)]) G dL_law_462 kL_54 (wd_at hm.1) ⟨by decide, rfl⟩ (s_X12_drawings hm G hc (by omega)) rfl (Nat.le_of_ble_eq_true rfl) (fun _ _ _ q => q.elim) ?_
  rintro _ _ ⟨rfl, rfl⟩
  refine V_icmp_eq (tgt := 1234) dL_law_465 (by decide) (fun c => ?_) (fun c => ?_)
  · replace hF := (if_pos c).symm.trans hF
    exact V_less (by omega) (by omega) (V_lv' (w_L_law_L1234 G2 hX hd hk23 _ _ _ hx hm ho hF) (v_all_c rfl (v_all_c rfl (v_all_c rfl (v_all_c rfl (v_all_c rfl v_all_n))))))
  · replace hF := (if_neg c).symm.trans hF
    refine V_iconst (v := 0) dL_law_468 (by decide) ?_
    cases hF
    exact V_ireturn dL_law_469 rfl (by decide) rfl
set_option maxRecDepth 100000 in
set_option maxHeartbeats 4000000 in
theorem w_L_law_L470 {l : Launch} {s0 : State} {D : va_G} {a0 : Array Value} {f : Nat} {xs : Nat → Int32} {Ln b : Nat} {r : Int32} {d : Nat} (G2 : GC2 l s0 D a0) (hX : va_X b Ln xs s0 s0.heap) (hd : 31 ≤ d + 1) {mc ms : Nat} {k23 : List Sh → St → Int32 → Option Int32} (hk23 : ∀ (sh : List Sh) (S : St) (l4 : Int32), isX8 sh 0 → isX12 sh 94 → sh[158]? = some (.inl (.long, 1)) → k23 sh S l4 = some r → V l s0 D (d + 1) (mc) (ms) mL_law (fun v _ => v = some (.int r)) v_noX 23 [(0, .ref b), (1, .ref (s0.heap.size + 0)), (2, .ref (s0.heap.size + 94)), (3, .ref (s0.heap.size + 158)), (4, .int l4)] [] (wd s0.heap.size sh S)) : ∀ (sh : List Sh) (S : St) (l4 : Int32), isX8 sh 0 → isX12 sh 94 → sh[158]? = some (.inl (.long, 1)) → F_L_law_L470 f xs Ln k23 sh S l4 = some r → V l s0 D (d + 1) (mc + 11) (ms + 88) mL_law (fun v _ => v = some (.int r)) v_noX 470 [(0, .ref b), (1, .ref (s0.heap.size + 0)), (2, .ref (s0.heap.size + 94)), (3, .ref (s0.heap.size + 158)), (4, .int l4)] [] (wd s0.heap.size sh S) := by
  have G := G2.1
  intro sh S l4 hx hm ho hF
  unfold F_L_law_L470 at hF
  refine V_aload_n dL_law_470 rfl ?_
  refine V_aload_n dL_law_471 rfl ?_
  refine V_iload dL_law_472 rfl ?_
  refine V_iconst (v := 1) dL_law_474 (by decide) ?_
  refine V_iadd dL_law_475 ?_
  obtain ⟨hz, hF⟩ := gv_out hF
  refine V_sald dL_law_476 hX hz ?_
  refine V_aload_n dL_law_477 rfl ?_
  refine V_iload dL_law_478 rfl ?_
  refine V_iconst (v := 2) dL_law_480 (by decide) ?_
  refine V_iadd dL_law_481 ?_
  obtain ⟨hz, hF⟩ := gv_out hF
  refine V_sald dL_law_482 hX hz ?_
  obtain ⟨y1, hc, hF⟩ := bd hF
  refine V_callV0 (as := [.int (xs (l4 + (1 : Int32)).toNatClampNeg), .int (xs (l4 + (2 : Int32)).toNatClampNeg)]) G dL_law_483 kL_55 (wd_at hx.1) ⟨by decide, rfl⟩ (s_X8_drawing hx G hc (by omega)) rfl (Nat.le_of_ble_eq_true rfl) (fun _ _ _ q => q.elim) ?_
  rintro _ _ ⟨rfl, rfl⟩
  refine V_aload_n dL_law_486 rfl ?_
  refine V_aload_n dL_law_487 rfl ?_
  refine V_iload dL_law_488 rfl ?_
  refine V_iconst (v := 1) dL_law_490 (by decide) ?_
  refine V_iadd dL_law_491 ?_
  obtain ⟨hz, hF⟩ := gv_out hF
  refine V_sald dL_law_492 hX hz ?_
  refine V_aload_n dL_law_493 rfl ?_
  refine V_iload dL_law_494 rfl ?_
  refine V_iconst (v := 2) dL_law_496 (by decide) ?_
  refine V_iadd dL_law_497 ?_
  obtain ⟨hz, hF⟩ := gv_out hF
  refine V_sald dL_law_498 hX hz ?_
  obtain ⟨y2, hc, hF⟩ := bd hF
  refine V_callV0 (as := [.int (xs (l4 + (1 : Int32)).toNatClampNeg), .int (xs (l4 + (2 : Int32)).toNatClampNeg)]) G dL_law_499 kL_58 (wd_at hm.1) ⟨by decide, rfl⟩ (s_X12_drawing hm G hc (by omega)) rfl (Nat.le_of_ble_eq_true rfl) (fun _ _ _ q => q.elim) ?_
  rintro _ _ ⟨rfl, rfl⟩
  refine V_icmp_eq (tgt := 1234) dL_law_502 (by decide) (fun c => ?_) (fun c => ?_)
  · replace hF := (if_pos c).symm.trans hF
    exact V_less (by omega) (by omega) (V_lv' (w_L_law_L1234 G2 hX hd hk23 _ _ _ hx hm ho hF) (v_all_c rfl (v_all_c rfl (v_all_c rfl (v_all_c rfl (v_all_c rfl v_all_n))))))
  · replace hF := (if_neg c).symm.trans hF
    refine V_iconst (v := 0) dL_law_505 (by decide) ?_
    cases hF
    exact V_ireturn dL_law_506 rfl (by decide) rfl
set_option maxRecDepth 100000 in
set_option maxHeartbeats 4000000 in
theorem w_L_law_L507 {l : Launch} {s0 : State} {D : va_G} {a0 : Array Value} {f : Nat} {xs : Nat → Int32} {Ln b : Nat} {r : Int32} {d : Nat} (G2 : GC2 l s0 D a0) (hX : va_X b Ln xs s0 s0.heap) (hd : 31 ≤ d + 1) {mc ms : Nat} {k23 : List Sh → St → Int32 → Option Int32} (hk23 : ∀ (sh : List Sh) (S : St) (l4 : Int32), isX8 sh 0 → isX12 sh 94 → sh[158]? = some (.inl (.long, 1)) → k23 sh S l4 = some r → V l s0 D (d + 1) (mc) (ms) mL_law (fun v _ => v = some (.int r)) v_noX 23 [(0, .ref b), (1, .ref (s0.heap.size + 0)), (2, .ref (s0.heap.size + 94)), (3, .ref (s0.heap.size + 158)), (4, .int l4)] [] (wd s0.heap.size sh S)) : ∀ (sh : List Sh) (S : St) (l4 : Int32), isX8 sh 0 → isX12 sh 94 → sh[158]? = some (.inl (.long, 1)) → F_L_law_L507 f xs Ln k23 sh S l4 = some r → V l s0 D (d + 1) (mc + 11) (ms + 88) mL_law (fun v _ => v = some (.int r)) v_noX 507 [(0, .ref b), (1, .ref (s0.heap.size + 0)), (2, .ref (s0.heap.size + 94)), (3, .ref (s0.heap.size + 158)), (4, .int l4)] [] (wd s0.heap.size sh S) := by
  have G := G2.1
  intro sh S l4 hx hm ho hF
  unfold F_L_law_L507 at hF
  refine V_aload_n dL_law_507 rfl ?_
  refine V_aload_n dL_law_508 rfl ?_
  refine V_iload dL_law_509 rfl ?_
  refine V_iconst (v := 1) dL_law_511 (by decide) ?_
  refine V_iadd dL_law_512 ?_
  obtain ⟨hz, hF⟩ := gv_out hF
  refine V_sald dL_law_513 hX hz ?_
  refine V_aload_n dL_law_514 rfl ?_
  refine V_iload dL_law_515 rfl ?_
  refine V_iconst (v := 2) dL_law_517 (by decide) ?_
  refine V_iadd dL_law_518 ?_
  obtain ⟨hz, hF⟩ := gv_out hF
  refine V_sald dL_law_519 hX hz ?_
  obtain ⟨y1, hc, hF⟩ := bd hF
  refine V_callV0 (as := [.int (xs (l4 + (1 : Int32)).toNatClampNeg), .int (xs (l4 + (2 : Int32)).toNatClampNeg)]) G dL_law_520 kL_59 (wd_at hx.1) ⟨by decide, rfl⟩ (s_X8_point hx G hc (by omega)) rfl (Nat.le_of_ble_eq_true rfl) (fun _ _ _ q => q.elim) ?_
  rintro _ _ ⟨rfl, rfl⟩
  refine V_aload_n dL_law_523 rfl ?_
  refine V_aload_n dL_law_524 rfl ?_
  refine V_iload dL_law_525 rfl ?_
  refine V_iconst (v := 1) dL_law_527 (by decide) ?_
  refine V_iadd dL_law_528 ?_
  obtain ⟨hz, hF⟩ := gv_out hF
  refine V_sald dL_law_529 hX hz ?_
  refine V_aload_n dL_law_530 rfl ?_
  refine V_iload dL_law_531 rfl ?_
  refine V_iconst (v := 2) dL_law_533 (by decide) ?_
  refine V_iadd dL_law_534 ?_
  obtain ⟨hz, hF⟩ := gv_out hF
  refine V_sald dL_law_535 hX hz ?_
  obtain ⟨y2, hc, hF⟩ := bd hF
  refine V_callV0 (as := [.int (xs (l4 + (1 : Int32)).toNatClampNeg), .int (xs (l4 + (2 : Int32)).toNatClampNeg)]) G dL_law_536 kL_62 (wd_at hm.1) ⟨by decide, rfl⟩ (s_X12_point hm G hc (by omega)) rfl (Nat.le_of_ble_eq_true rfl) (fun _ _ _ q => q.elim) ?_
  rintro _ _ ⟨rfl, rfl⟩
  refine V_icmp_eq (tgt := 1234) dL_law_539 (by decide) (fun c => ?_) (fun c => ?_)
  · replace hF := (if_pos c).symm.trans hF
    exact V_less (by omega) (by omega) (V_lv' (w_L_law_L1234 G2 hX hd hk23 _ _ _ hx hm ho hF) (v_all_c rfl (v_all_c rfl (v_all_c rfl (v_all_c rfl (v_all_c rfl v_all_n))))))
  · replace hF := (if_neg c).symm.trans hF
    refine V_iconst (v := 0) dL_law_542 (by decide) ?_
    cases hF
    exact V_ireturn dL_law_543 rfl (by decide) rfl
set_option maxRecDepth 100000 in
set_option maxHeartbeats 4000000 in
theorem w_L_law_L544 {l : Launch} {s0 : State} {D : va_G} {a0 : Array Value} {f : Nat} {xs : Nat → Int32} {Ln b : Nat} {r : Int32} {d : Nat} (G2 : GC2 l s0 D a0) (hX : va_X b Ln xs s0 s0.heap) (hd : 31 ≤ d + 1) {mc ms : Nat} {k23 : List Sh → St → Int32 → Option Int32} (hk23 : ∀ (sh : List Sh) (S : St) (l4 : Int32), isX8 sh 0 → isX12 sh 94 → sh[158]? = some (.inl (.long, 1)) → k23 sh S l4 = some r → V l s0 D (d + 1) (mc) (ms) mL_law (fun v _ => v = some (.int r)) v_noX 23 [(0, .ref b), (1, .ref (s0.heap.size + 0)), (2, .ref (s0.heap.size + 94)), (3, .ref (s0.heap.size + 158)), (4, .int l4)] [] (wd s0.heap.size sh S)) : ∀ (sh : List Sh) (S : St) (l4 : Int32), isX8 sh 0 → isX12 sh 94 → sh[158]? = some (.inl (.long, 1)) → F_L_law_L544 f xs Ln k23 sh S l4 = some r → V l s0 D (d + 1) (mc + 11) (ms + 88) mL_law (fun v _ => v = some (.int r)) v_noX 544 [(0, .ref b), (1, .ref (s0.heap.size + 0)), (2, .ref (s0.heap.size + 94)), (3, .ref (s0.heap.size + 158)), (4, .int l4)] [] (wd s0.heap.size sh S) := by
  have G := G2.1
  intro sh S l4 hx hm ho hF
  unfold F_L_law_L544 at hF
  refine V_aload_n dL_law_544 rfl ?_
  refine V_aload_n dL_law_545 rfl ?_
  refine V_iload dL_law_546 rfl ?_
  refine V_iconst (v := 1) dL_law_548 (by decide) ?_
  refine V_iadd dL_law_549 ?_
  obtain ⟨hz, hF⟩ := gv_out hF
  refine V_sald dL_law_550 hX hz ?_
  refine V_aload_n dL_law_551 rfl ?_
  refine V_iload dL_law_552 rfl ?_
  refine V_iconst (v := 2) dL_law_554 (by decide) ?_
  refine V_iadd dL_law_555 ?_
  obtain ⟨hz, hF⟩ := gv_out hF
  refine V_sald dL_law_556 hX hz ?_
  obtain ⟨y1, hc, hF⟩ := bd hF
  refine V_callV0 (as := [.int (xs (l4 + (1 : Int32)).toNatClampNeg), .int (xs (l4 + (2 : Int32)).toNatClampNeg)]) G dL_law_557 kL_63 (wd_at hx.1) ⟨by decide, rfl⟩ (s_X8_joined hx G hc (by omega)) rfl (Nat.le_of_ble_eq_true rfl) (fun _ _ _ q => q.elim) ?_
  rintro _ _ ⟨rfl, rfl⟩
  refine V_aload_n dL_law_560 rfl ?_
  refine V_aload_n dL_law_561 rfl ?_
  refine V_iload dL_law_562 rfl ?_
  refine V_iconst (v := 1) dL_law_564 (by decide) ?_
  refine V_iadd dL_law_565 ?_
  obtain ⟨hz, hF⟩ := gv_out hF
  refine V_sald dL_law_566 hX hz ?_
  refine V_aload_n dL_law_567 rfl ?_
  refine V_iload dL_law_568 rfl ?_
  refine V_iconst (v := 2) dL_law_570 (by decide) ?_
  refine V_iadd dL_law_571 ?_
  obtain ⟨hz, hF⟩ := gv_out hF
  refine V_sald dL_law_572 hX hz ?_
  obtain ⟨y2, hc, hF⟩ := bd hF
  refine V_callV0 (as := [.int (xs (l4 + (1 : Int32)).toNatClampNeg), .int (xs (l4 + (2 : Int32)).toNatClampNeg)]) G dL_law_573 kL_66 (wd_at hm.1) ⟨by decide, rfl⟩ (s_X12_joined hm G hc (by omega)) rfl (Nat.le_of_ble_eq_true rfl) (fun _ _ _ q => q.elim) ?_
  rintro _ _ ⟨rfl, rfl⟩
  refine V_icmp_eq (tgt := 1234) dL_law_576 (by decide) (fun c => ?_) (fun c => ?_)
  · replace hF := (if_pos c).symm.trans hF
    exact V_less (by omega) (by omega) (V_lv' (w_L_law_L1234 G2 hX hd hk23 _ _ _ hx hm ho hF) (v_all_c rfl (v_all_c rfl (v_all_c rfl (v_all_c rfl (v_all_c rfl v_all_n))))))
  · replace hF := (if_neg c).symm.trans hF
    refine V_iconst (v := 0) dL_law_579 (by decide) ?_
    cases hF
    exact V_ireturn dL_law_580 rfl (by decide) rfl
set_option maxRecDepth 100000 in
set_option maxHeartbeats 4000000 in
theorem w_L_law_L581 {l : Launch} {s0 : State} {D : va_G} {a0 : Array Value} {f : Nat} {xs : Nat → Int32} {Ln b : Nat} {r : Int32} {d : Nat} (G2 : GC2 l s0 D a0) (hX : va_X b Ln xs s0 s0.heap) (hd : 31 ≤ d + 1) {mc ms : Nat} {k23 : List Sh → St → Int32 → Option Int32} (hk23 : ∀ (sh : List Sh) (S : St) (l4 : Int32), isX8 sh 0 → isX12 sh 94 → sh[158]? = some (.inl (.long, 1)) → k23 sh S l4 = some r → V l s0 D (d + 1) (mc) (ms) mL_law (fun v _ => v = some (.int r)) v_noX 23 [(0, .ref b), (1, .ref (s0.heap.size + 0)), (2, .ref (s0.heap.size + 94)), (3, .ref (s0.heap.size + 158)), (4, .int l4)] [] (wd s0.heap.size sh S)) : ∀ (sh : List Sh) (S : St) (l4 : Int32), isX8 sh 0 → isX12 sh 94 → sh[158]? = some (.inl (.long, 1)) → F_L_law_L581 f xs Ln k23 sh S l4 = some r → V l s0 D (d + 1) (mc + 11) (ms + 88) mL_law (fun v _ => v = some (.int r)) v_noX 581 [(0, .ref b), (1, .ref (s0.heap.size + 0)), (2, .ref (s0.heap.size + 94)), (3, .ref (s0.heap.size + 158)), (4, .int l4)] [] (wd s0.heap.size sh S) := by
  have G := G2.1
  intro sh S l4 hx hm ho hF
  unfold F_L_law_L581 at hF
  refine V_aload_n dL_law_581 rfl ?_
  refine V_aload_n dL_law_582 rfl ?_
  refine V_iload dL_law_583 rfl ?_
  refine V_iconst (v := 1) dL_law_585 (by decide) ?_
  refine V_iadd dL_law_586 ?_
  obtain ⟨hz, hF⟩ := gv_out hF
  refine V_sald dL_law_587 hX hz ?_
  refine V_aload_n dL_law_588 rfl ?_
  refine V_iload dL_law_589 rfl ?_
  refine V_iconst (v := 2) dL_law_591 (by decide) ?_
  refine V_iadd dL_law_592 ?_
  obtain ⟨hz, hF⟩ := gv_out hF
  refine V_sald dL_law_593 hX hz ?_
  refine V_aload_n dL_law_594 rfl ?_
  obtain ⟨y1, hc, hF⟩ := bd hF
  refine V_less (mc' := mc + 10 + 1) (ms' := ms + 82 + 6) (by omega) (by omega) ?_
  refine V_callSH (as := [.ref (s0.heap.size + 0), .int (xs (l4 + (1 : Int32)).toNatClampNeg), .int (xs (l4 + (2 : Int32)).toNatClampNeg), .ref (s0.heap.size + 158)]) dL_law_595 bL_side lkL_67 stL_side (s_L_side hx ho G2 hc (by omega)) rfl (Nat.le_of_ble_eq_true rfl) (fun _ _ _ q => q.elim) ?_
  rintro _ _ ⟨rfl, rfl⟩
  obtain ⟨hz, hF⟩ := gv_out hF
  replace hz := Decidable.not_not.mp hz
  obtain ⟨sh, qsh, hF⟩ := bnd_g hF
  rw [qsh] at hz ⊢
  replace hx := sh_or (P := fun s => isX8 s 0) hz hx isX8_app
  replace hm := sh_or (P := fun s => isX12 s 94) hz hm isX12_app
  replace ho := sh_or (P := fun s => s[158]? = some (.inl (.long, 1))) hz ho ga
  obtain ⟨x2, qx2, hF⟩ := bnd_g hF
  refine B_istore qx2 dL_law_598 (by decide) ?_
  refine V_aload_n dL_law_600 rfl ?_
  refine V_aload_n dL_law_601 rfl ?_
  refine V_iload dL_law_602 rfl ?_
  refine V_iconst (v := 1) dL_law_604 (by decide) ?_
  refine V_iadd dL_law_605 ?_
  obtain ⟨hz, hF⟩ := gv_out hF
  refine V_sald dL_law_606 hX hz ?_
  refine V_aload_n dL_law_607 rfl ?_
  refine V_iload dL_law_608 rfl ?_
  refine V_iconst (v := 2) dL_law_610 (by decide) ?_
  refine V_iadd dL_law_611 ?_
  obtain ⟨hz, hF⟩ := gv_out hF
  refine V_sald dL_law_612 hX hz ?_
  obtain ⟨y3, hc, hF⟩ := bd hF
  refine V_callV0 (as := [.int (xs (l4 + (1 : Int32)).toNatClampNeg), .int (xs (l4 + (2 : Int32)).toNatClampNeg)]) G dL_law_613 kL_72 (wd_at hm.1) ⟨by decide, rfl⟩ (s_X12_side hm G hc (by omega)) rfl (Nat.le_of_ble_eq_true rfl) (fun _ _ _ q => q.elim) ?_
  rintro _ _ ⟨rfl, rfl⟩
  obtain ⟨x4, qx4, hF⟩ := bnd_g hF
  refine B_istore qx4 dL_law_616 (by decide) ?_
  refine V_aload_n dL_law_618 rfl ?_
  obtain ⟨y5, hc, hF⟩ := bd hF
  refine V_callV0 (as := []) G dL_law_619 kL_73 (wd_at hm.1) ⟨by decide, rfl⟩ (s_X12_thrown hm G hc (by omega)) rfl (Nat.le_of_ble_eq_true rfl) (fun _ _ _ q => q.elim) ?_
  rintro _ _ ⟨rfl, rfl⟩
  refine V_iload dL_law_622 rfl ?_
  refine V_icmp_eq (tgt := 629) dL_law_624 (by decide) (fun c => ?_) (fun c => ?_)
  · replace hF := (if_pos c).symm.trans hF
    refine V_iload dL_law_629 rfl ?_
    refine V_if_ne (tgt := 646) dL_law_631 (by decide) (fun c => ?_) (fun c => ?_)
    · replace hF := (if_neg c).symm.trans hF
      refine V_goto (tgt := 1234) dL_law_646 (by decide) ?_
      exact V_less (by omega) (by omega) (V_lv' (w_L_law_L1234 G2 hX hd hk23 _ _ _ hx hm ho hF) (v_all_c rfl (v_all_c rfl (v_all_c rfl (v_all_c rfl (v_all_c rfl v_all_n))))))
    · replace hF := (if_pos c).symm.trans hF
      refine V_aload_n dL_law_634 rfl ?_
      refine V_iconst (v := 0) dL_law_635 (by decide) ?_
      obtain ⟨hz, hF⟩ := gv_out hF
      refine X_lald dL_law_636 ho hz ?_
      refine V_iload dL_law_637 rfl ?_
      refine V_i2l dL_law_639 ?_
      refine V_lcmp dL_law_640 ?_
      refine V_if_eq (tgt := 646) dL_law_641 (by decide) (fun c => ?_) (fun c => ?_)
      · replace hF := (if_pos c).symm.trans hF
        refine V_goto (tgt := 1234) dL_law_646 (by decide) ?_
        exact V_less (by omega) (by omega) (V_lv' (w_L_law_L1234 G2 hX hd hk23 _ _ _ hx hm ho hF) (v_all_c rfl (v_all_c rfl (v_all_c rfl (v_all_c rfl (v_all_c rfl v_all_n))))))
      · replace hF := (if_neg c).symm.trans hF
        refine V_iconst (v := 0) dL_law_644 (by decide) ?_
        cases hF
        exact V_ireturn dL_law_645 rfl (by decide) rfl
  · replace hF := (if_neg c).symm.trans hF
    refine V_iconst (v := 0) dL_law_627 (by decide) ?_
    cases hF
    exact V_ireturn dL_law_628 rfl (by decide) rfl
set_option maxRecDepth 100000 in
set_option maxHeartbeats 4000000 in
theorem w_L_law_L649 {l : Launch} {s0 : State} {D : va_G} {a0 : Array Value} {f : Nat} {xs : Nat → Int32} {Ln b : Nat} {r : Int32} {d : Nat} (G2 : GC2 l s0 D a0) (hX : va_X b Ln xs s0 s0.heap) (hd : 31 ≤ d + 1) {mc ms : Nat} {k23 : List Sh → St → Int32 → Option Int32} (hk23 : ∀ (sh : List Sh) (S : St) (l4 : Int32), isX8 sh 0 → isX12 sh 94 → sh[158]? = some (.inl (.long, 1)) → k23 sh S l4 = some r → V l s0 D (d + 1) (mc) (ms) mL_law (fun v _ => v = some (.int r)) v_noX 23 [(0, .ref b), (1, .ref (s0.heap.size + 0)), (2, .ref (s0.heap.size + 94)), (3, .ref (s0.heap.size + 158)), (4, .int l4)] [] (wd s0.heap.size sh S)) : ∀ (sh : List Sh) (S : St) (l4 : Int32), isX8 sh 0 → isX12 sh 94 → sh[158]? = some (.inl (.long, 1)) → F_L_law_L649 f xs Ln k23 sh S l4 = some r → V l s0 D (d + 1) (mc + 11) (ms + 88) mL_law (fun v _ => v = some (.int r)) v_noX 649 [(0, .ref b), (1, .ref (s0.heap.size + 0)), (2, .ref (s0.heap.size + 94)), (3, .ref (s0.heap.size + 158)), (4, .int l4)] [] (wd s0.heap.size sh S) := by
  have G := G2.1
  intro sh S l4 hx hm ho hF
  unfold F_L_law_L649 at hF
  refine V_aload_n dL_law_649 rfl ?_
  obtain ⟨y1, hc, hF⟩ := bd hF
  refine V_callV0 (as := []) G dL_law_650 kL_76 (wd_at hx.1) ⟨by decide, rfl⟩ (s_X8_pairings hx G hc (by omega)) rfl (Nat.le_of_ble_eq_true rfl) (fun _ _ _ q => q.elim) ?_
  rintro _ _ ⟨rfl, rfl⟩
  refine V_aload_n dL_law_653 rfl ?_
  obtain ⟨y2, hc, hF⟩ := bd hF
  refine V_callV0 (as := []) G dL_law_654 kL_79 (wd_at hm.1) ⟨by decide, rfl⟩ (s_X12_pairings hm G hc (by omega)) rfl (Nat.le_of_ble_eq_true rfl) (fun _ _ _ q => q.elim) ?_
  rintro _ _ ⟨rfl, rfl⟩
  refine V_icmp_eq (tgt := 1234) dL_law_657 (by decide) (fun c => ?_) (fun c => ?_)
  · replace hF := (if_pos c).symm.trans hF
    exact V_less (by omega) (by omega) (V_lv' (w_L_law_L1234 G2 hX hd hk23 _ _ _ hx hm ho hF) (v_all_c rfl (v_all_c rfl (v_all_c rfl (v_all_c rfl (v_all_c rfl v_all_n))))))
  · replace hF := (if_neg c).symm.trans hF
    refine V_iconst (v := 0) dL_law_660 (by decide) ?_
    cases hF
    exact V_ireturn dL_law_661 rfl (by decide) rfl
set_option maxRecDepth 100000 in
set_option maxHeartbeats 4000000 in
theorem w_L_law_L662 {l : Launch} {s0 : State} {D : va_G} {a0 : Array Value} {f : Nat} {xs : Nat → Int32} {Ln b : Nat} {r : Int32} {d : Nat} (G2 : GC2 l s0 D a0) (hX : va_X b Ln xs s0 s0.heap) (hd : 31 ≤ d + 1) {mc ms : Nat} {k23 : List Sh → St → Int32 → Option Int32} (hk23 : ∀ (sh : List Sh) (S : St) (l4 : Int32), isX8 sh 0 → isX12 sh 94 → sh[158]? = some (.inl (.long, 1)) → k23 sh S l4 = some r → V l s0 D (d + 1) (mc) (ms) mL_law (fun v _ => v = some (.int r)) v_noX 23 [(0, .ref b), (1, .ref (s0.heap.size + 0)), (2, .ref (s0.heap.size + 94)), (3, .ref (s0.heap.size + 158)), (4, .int l4)] [] (wd s0.heap.size sh S)) : ∀ (sh : List Sh) (S : St) (l4 : Int32), isX8 sh 0 → isX12 sh 94 → sh[158]? = some (.inl (.long, 1)) → F_L_law_L662 f xs Ln k23 sh S l4 = some r → V l s0 D (d + 1) (mc + 11) (ms + 88) mL_law (fun v _ => v = some (.int r)) v_noX 662 [(0, .ref b), (1, .ref (s0.heap.size + 0)), (2, .ref (s0.heap.size + 94)), (3, .ref (s0.heap.size + 158)), (4, .int l4)] [] (wd s0.heap.size sh S) := by
  have G := G2.1
  intro sh S l4 hx hm ho hF
  unfold F_L_law_L662 at hF
  refine V_aload_n dL_law_662 rfl ?_
  refine V_aload_n dL_law_663 rfl ?_
  refine V_iload dL_law_664 rfl ?_
  refine V_iconst (v := 1) dL_law_666 (by decide) ?_
  refine V_iadd dL_law_667 ?_
  obtain ⟨hz, hF⟩ := gv_out hF
  refine V_sald dL_law_668 hX hz ?_
  refine V_aload_n dL_law_669 rfl ?_
  refine V_iload dL_law_670 rfl ?_
  refine V_iconst (v := 2) dL_law_672 (by decide) ?_
  refine V_iadd dL_law_673 ?_
  obtain ⟨hz, hF⟩ := gv_out hF
  refine V_sald dL_law_674 hX hz ?_
  refine V_aload_n dL_law_675 rfl ?_
  refine V_iload dL_law_676 rfl ?_
  refine V_iconst (v := 3) dL_law_678 (by decide) ?_
  refine V_iadd dL_law_679 ?_
  obtain ⟨hz, hF⟩ := gv_out hF
  refine V_sald dL_law_680 hX hz ?_
  refine V_aload_n dL_law_681 rfl ?_
  refine V_iload dL_law_682 rfl ?_
  refine V_iconst (v := 4) dL_law_684 (by decide) ?_
  refine V_iadd dL_law_685 ?_
  obtain ⟨hz, hF⟩ := gv_out hF
  refine V_sald dL_law_686 hX hz ?_
  refine V_aload_n dL_law_687 rfl ?_
  refine V_iload dL_law_688 rfl ?_
  refine V_iconst (v := 5) dL_law_690 (by decide) ?_
  refine V_iadd dL_law_691 ?_
  obtain ⟨hz, hF⟩ := gv_out hF
  refine V_sald dL_law_692 hX hz ?_
  refine V_aload_n dL_law_693 rfl ?_
  refine V_iload dL_law_694 rfl ?_
  refine V_bipush (v := 6) dL_law_696 (by decide) ?_
  refine V_iadd dL_law_698 ?_
  obtain ⟨hz, hF⟩ := gv_out hF
  refine V_sald dL_law_699 hX hz ?_
  refine V_aload_n dL_law_700 rfl ?_
  refine V_iload dL_law_701 rfl ?_
  refine V_bipush (v := 7) dL_law_703 (by decide) ?_
  refine V_iadd dL_law_705 ?_
  obtain ⟨hz, hF⟩ := gv_out hF
  refine V_sald dL_law_706 hX hz ?_
  obtain ⟨y1, hc, hF⟩ := bd hF
  refine V_callV0 (as := [.int (xs (l4 + (1 : Int32)).toNatClampNeg), .int (xs (l4 + (2 : Int32)).toNatClampNeg), .int (xs (l4 + (3 : Int32)).toNatClampNeg), .int (xs (l4 + (4 : Int32)).toNatClampNeg), .int (xs (l4 + (5 : Int32)).toNatClampNeg), .int (xs (l4 + (6 : Int32)).toNatClampNeg), .int (xs (l4 + (7 : Int32)).toNatClampNeg)]) G dL_law_707 kL_80 (wd_at hx.1) ⟨by decide, rfl⟩ (s_X8_same hx G hc (by omega)) rfl (Nat.le_of_ble_eq_true rfl) (fun _ _ _ q => q.elim) ?_
  rintro _ _ ⟨rfl, rfl⟩
  refine V_aload_n dL_law_710 rfl ?_
  refine V_aload_n dL_law_711 rfl ?_
  refine V_iload dL_law_712 rfl ?_
  refine V_iconst (v := 1) dL_law_714 (by decide) ?_
  refine V_iadd dL_law_715 ?_
  obtain ⟨hz, hF⟩ := gv_out hF
  refine V_sald dL_law_716 hX hz ?_
  refine V_aload_n dL_law_717 rfl ?_
  refine V_iload dL_law_718 rfl ?_
  refine V_iconst (v := 2) dL_law_720 (by decide) ?_
  refine V_iadd dL_law_721 ?_
  obtain ⟨hz, hF⟩ := gv_out hF
  refine V_sald dL_law_722 hX hz ?_
  refine V_aload_n dL_law_723 rfl ?_
  refine V_iload dL_law_724 rfl ?_
  refine V_iconst (v := 3) dL_law_726 (by decide) ?_
  refine V_iadd dL_law_727 ?_
  obtain ⟨hz, hF⟩ := gv_out hF
  refine V_sald dL_law_728 hX hz ?_
  refine V_aload_n dL_law_729 rfl ?_
  refine V_iload dL_law_730 rfl ?_
  refine V_iconst (v := 4) dL_law_732 (by decide) ?_
  refine V_iadd dL_law_733 ?_
  obtain ⟨hz, hF⟩ := gv_out hF
  refine V_sald dL_law_734 hX hz ?_
  refine V_aload_n dL_law_735 rfl ?_
  refine V_iload dL_law_736 rfl ?_
  refine V_iconst (v := 5) dL_law_738 (by decide) ?_
  refine V_iadd dL_law_739 ?_
  obtain ⟨hz, hF⟩ := gv_out hF
  refine V_sald dL_law_740 hX hz ?_
  refine V_aload_n dL_law_741 rfl ?_
  refine V_iload dL_law_742 rfl ?_
  refine V_bipush (v := 6) dL_law_744 (by decide) ?_
  refine V_iadd dL_law_746 ?_
  obtain ⟨hz, hF⟩ := gv_out hF
  refine V_sald dL_law_747 hX hz ?_
  refine V_aload_n dL_law_748 rfl ?_
  refine V_iload dL_law_749 rfl ?_
  refine V_bipush (v := 7) dL_law_751 (by decide) ?_
  refine V_iadd dL_law_753 ?_
  obtain ⟨hz, hF⟩ := gv_out hF
  refine V_sald dL_law_754 hX hz ?_
  obtain ⟨y2, hc, hF⟩ := bd hF
  refine V_callV0 (as := [.int (xs (l4 + (1 : Int32)).toNatClampNeg), .int (xs (l4 + (2 : Int32)).toNatClampNeg), .int (xs (l4 + (3 : Int32)).toNatClampNeg), .int (xs (l4 + (4 : Int32)).toNatClampNeg), .int (xs (l4 + (5 : Int32)).toNatClampNeg), .int (xs (l4 + (6 : Int32)).toNatClampNeg), .int (xs (l4 + (7 : Int32)).toNatClampNeg)]) G dL_law_755 kL_84 (wd_at hm.1) ⟨by decide, rfl⟩ (s_X12_same hm G hc (by omega)) rfl (Nat.le_of_ble_eq_true rfl) (fun _ _ _ q => q.elim) ?_
  rintro _ _ ⟨rfl, rfl⟩
  refine V_icmp_eq (tgt := 1234) dL_law_758 (by decide) (fun c => ?_) (fun c => ?_)
  · replace hF := (if_pos c).symm.trans hF
    exact V_less (by omega) (by omega) (V_lv' (w_L_law_L1234 G2 hX hd hk23 _ _ _ hx hm ho hF) (v_all_c rfl (v_all_c rfl (v_all_c rfl (v_all_c rfl (v_all_c rfl v_all_n))))))
  · replace hF := (if_neg c).symm.trans hF
    refine V_iconst (v := 0) dL_law_761 (by decide) ?_
    cases hF
    exact V_ireturn dL_law_762 rfl (by decide) rfl
set_option maxRecDepth 100000 in
set_option maxHeartbeats 4000000 in
theorem w_L_law_L763 {l : Launch} {s0 : State} {D : va_G} {a0 : Array Value} {f : Nat} {xs : Nat → Int32} {Ln b : Nat} {r : Int32} {d : Nat} (G2 : GC2 l s0 D a0) (hX : va_X b Ln xs s0 s0.heap) (hd : 31 ≤ d + 1) {mc ms : Nat} {k23 : List Sh → St → Int32 → Option Int32} (hk23 : ∀ (sh : List Sh) (S : St) (l4 : Int32), isX8 sh 0 → isX12 sh 94 → sh[158]? = some (.inl (.long, 1)) → k23 sh S l4 = some r → V l s0 D (d + 1) (mc) (ms) mL_law (fun v _ => v = some (.int r)) v_noX 23 [(0, .ref b), (1, .ref (s0.heap.size + 0)), (2, .ref (s0.heap.size + 94)), (3, .ref (s0.heap.size + 158)), (4, .int l4)] [] (wd s0.heap.size sh S)) : ∀ (sh : List Sh) (S : St) (l4 : Int32), isX8 sh 0 → isX12 sh 94 → sh[158]? = some (.inl (.long, 1)) → F_L_law_L763 f xs Ln k23 sh S l4 = some r → V l s0 D (d + 1) (mc + 11) (ms + 88) mL_law (fun v _ => v = some (.int r)) v_noX 763 [(0, .ref b), (1, .ref (s0.heap.size + 0)), (2, .ref (s0.heap.size + 94)), (3, .ref (s0.heap.size + 158)), (4, .int l4)] [] (wd s0.heap.size sh S) := by
  have G := G2.1
  intro sh S l4 hx hm ho hF
  unfold F_L_law_L763 at hF
  refine V_aload_n dL_law_763 rfl ?_
  refine V_aload_n dL_law_764 rfl ?_
  refine V_iload dL_law_765 rfl ?_
  refine V_iconst (v := 1) dL_law_767 (by decide) ?_
  refine V_iadd dL_law_768 ?_
  obtain ⟨hz, hF⟩ := gv_out hF
  refine V_sald dL_law_769 hX hz ?_
  refine V_aload_n dL_law_770 rfl ?_
  refine V_iload dL_law_771 rfl ?_
  refine V_iconst (v := 2) dL_law_773 (by decide) ?_
  refine V_iadd dL_law_774 ?_
  obtain ⟨hz, hF⟩ := gv_out hF
  refine V_sald dL_law_775 hX hz ?_
  refine V_aload_n dL_law_776 rfl ?_
  refine V_iload dL_law_777 rfl ?_
  refine V_iconst (v := 3) dL_law_779 (by decide) ?_
  refine V_iadd dL_law_780 ?_
  obtain ⟨hz, hF⟩ := gv_out hF
  refine V_sald dL_law_781 hX hz ?_
  refine V_aload_n dL_law_782 rfl ?_
  refine V_iload dL_law_783 rfl ?_
  refine V_iconst (v := 4) dL_law_785 (by decide) ?_
  refine V_iadd dL_law_786 ?_
  obtain ⟨hz, hF⟩ := gv_out hF
  refine V_sald dL_law_787 hX hz ?_
  refine V_if_eq (tgt := 795) dL_law_788 (by decide) (fun c => ?_) (fun c => ?_)
  · replace hF := (if_pos c).symm.trans hF
    refine V_iconst (v := 0) dL_law_795 (by decide) ?_
    obtain ⟨y1, hc, hF⟩ := bd hF
    refine V_callV0 (as := [.int (xs (l4 + (1 : Int32)).toNatClampNeg), .int (xs (l4 + (2 : Int32)).toNatClampNeg), .int (xs (l4 + (3 : Int32)).toNatClampNeg), .int (0 : Int32)]) G dL_law_796 kL_85 (wd_at hx.1) ⟨by decide, rfl⟩ (s_X8_sum hx G hc (by omega)) rfl (Nat.le_of_ble_eq_true rfl) (fun _ _ _ q => q.elim) ?_
    rintro _ _ ⟨rfl, rfl⟩
    refine V_aload_n dL_law_799 rfl ?_
    refine V_aload_n dL_law_800 rfl ?_
    refine V_iload dL_law_801 rfl ?_
    refine V_iconst (v := 1) dL_law_803 (by decide) ?_
    refine V_iadd dL_law_804 ?_
    obtain ⟨hz, hF⟩ := gv_out hF
    refine V_sald dL_law_805 hX hz ?_
    refine V_aload_n dL_law_806 rfl ?_
    refine V_iload dL_law_807 rfl ?_
    refine V_iconst (v := 2) dL_law_809 (by decide) ?_
    refine V_iadd dL_law_810 ?_
    obtain ⟨hz, hF⟩ := gv_out hF
    refine V_sald dL_law_811 hX hz ?_
    refine V_aload_n dL_law_812 rfl ?_
    refine V_iload dL_law_813 rfl ?_
    refine V_iconst (v := 3) dL_law_815 (by decide) ?_
    refine V_iadd dL_law_816 ?_
    obtain ⟨hz, hF⟩ := gv_out hF
    refine V_sald dL_law_817 hX hz ?_
    refine V_aload_n dL_law_818 rfl ?_
    refine V_iload dL_law_819 rfl ?_
    refine V_iconst (v := 4) dL_law_821 (by decide) ?_
    refine V_iadd dL_law_822 ?_
    obtain ⟨hz, hF⟩ := gv_out hF
    refine V_sald dL_law_823 hX hz ?_
    refine V_if_eq (tgt := 831) dL_law_824 (by decide) (fun c => ?_) (fun c => ?_)
    · replace hF := (if_pos c).symm.trans hF
      refine V_iconst (v := 0) dL_law_831 (by decide) ?_
      obtain ⟨y2, hc, hF⟩ := bd hF
      refine V_callV0 (as := [.int (xs (l4 + (1 : Int32)).toNatClampNeg), .int (xs (l4 + (2 : Int32)).toNatClampNeg), .int (xs (l4 + (3 : Int32)).toNatClampNeg), .int (0 : Int32)]) G dL_law_832 kL_89 (wd_at hm.1) ⟨by decide, rfl⟩ (s_X12_sum hm G hc (by omega)) rfl (Nat.le_of_ble_eq_true rfl) (fun _ _ _ q => q.elim) ?_
      rintro _ _ ⟨rfl, rfl⟩
      refine V_lcmp dL_law_835 ?_
      refine V_if_eq (tgt := 1234) dL_law_836 (by decide) (fun c => ?_) (fun c => ?_)
      · replace hF := (if_pos c).symm.trans hF
        exact V_less (by omega) (by omega) (V_lv' (w_L_law_L1234 G2 hX hd hk23 _ _ _ hx hm ho hF) (v_all_c rfl (v_all_c rfl (v_all_c rfl (v_all_c rfl (v_all_c rfl v_all_n))))))
      · replace hF := (if_neg c).symm.trans hF
        refine V_iconst (v := 0) dL_law_839 (by decide) ?_
        cases hF
        exact V_ireturn dL_law_840 rfl (by decide) rfl
    · replace hF := (if_neg c).symm.trans hF
      refine V_iconst (v := 1) dL_law_827 (by decide) ?_
      refine V_goto (tgt := 832) dL_law_828 (by decide) ?_
      obtain ⟨y3, hc, hF⟩ := bd hF
      refine V_callV0 (as := [.int (xs (l4 + (1 : Int32)).toNatClampNeg), .int (xs (l4 + (2 : Int32)).toNatClampNeg), .int (xs (l4 + (3 : Int32)).toNatClampNeg), .int (1 : Int32)]) G dL_law_832 kL_89 (wd_at hm.1) ⟨by decide, rfl⟩ (s_X12_sum hm G hc (by omega)) rfl (Nat.le_of_ble_eq_true rfl) (fun _ _ _ q => q.elim) ?_
      rintro _ _ ⟨rfl, rfl⟩
      refine V_lcmp dL_law_835 ?_
      refine V_if_eq (tgt := 1234) dL_law_836 (by decide) (fun c => ?_) (fun c => ?_)
      · replace hF := (if_pos c).symm.trans hF
        exact V_less (by omega) (by omega) (V_lv' (w_L_law_L1234 G2 hX hd hk23 _ _ _ hx hm ho hF) (v_all_c rfl (v_all_c rfl (v_all_c rfl (v_all_c rfl (v_all_c rfl v_all_n))))))
      · replace hF := (if_neg c).symm.trans hF
        refine V_iconst (v := 0) dL_law_839 (by decide) ?_
        cases hF
        exact V_ireturn dL_law_840 rfl (by decide) rfl
  · replace hF := (if_neg c).symm.trans hF
    refine V_iconst (v := 1) dL_law_791 (by decide) ?_
    refine V_goto (tgt := 796) dL_law_792 (by decide) ?_
    obtain ⟨y4, hc, hF⟩ := bd hF
    refine V_callV0 (as := [.int (xs (l4 + (1 : Int32)).toNatClampNeg), .int (xs (l4 + (2 : Int32)).toNatClampNeg), .int (xs (l4 + (3 : Int32)).toNatClampNeg), .int (1 : Int32)]) G dL_law_796 kL_85 (wd_at hx.1) ⟨by decide, rfl⟩ (s_X8_sum hx G hc (by omega)) rfl (Nat.le_of_ble_eq_true rfl) (fun _ _ _ q => q.elim) ?_
    rintro _ _ ⟨rfl, rfl⟩
    refine V_aload_n dL_law_799 rfl ?_
    refine V_aload_n dL_law_800 rfl ?_
    refine V_iload dL_law_801 rfl ?_
    refine V_iconst (v := 1) dL_law_803 (by decide) ?_
    refine V_iadd dL_law_804 ?_
    obtain ⟨hz, hF⟩ := gv_out hF
    refine V_sald dL_law_805 hX hz ?_
    refine V_aload_n dL_law_806 rfl ?_
    refine V_iload dL_law_807 rfl ?_
    refine V_iconst (v := 2) dL_law_809 (by decide) ?_
    refine V_iadd dL_law_810 ?_
    obtain ⟨hz, hF⟩ := gv_out hF
    refine V_sald dL_law_811 hX hz ?_
    refine V_aload_n dL_law_812 rfl ?_
    refine V_iload dL_law_813 rfl ?_
    refine V_iconst (v := 3) dL_law_815 (by decide) ?_
    refine V_iadd dL_law_816 ?_
    obtain ⟨hz, hF⟩ := gv_out hF
    refine V_sald dL_law_817 hX hz ?_
    refine V_aload_n dL_law_818 rfl ?_
    refine V_iload dL_law_819 rfl ?_
    refine V_iconst (v := 4) dL_law_821 (by decide) ?_
    refine V_iadd dL_law_822 ?_
    obtain ⟨hz, hF⟩ := gv_out hF
    refine V_sald dL_law_823 hX hz ?_
    refine V_if_eq (tgt := 831) dL_law_824 (by decide) (fun c => ?_) (fun c => ?_)
    · replace hF := (if_pos c).symm.trans hF
      refine V_iconst (v := 0) dL_law_831 (by decide) ?_
      obtain ⟨y5, hc, hF⟩ := bd hF
      refine V_callV0 (as := [.int (xs (l4 + (1 : Int32)).toNatClampNeg), .int (xs (l4 + (2 : Int32)).toNatClampNeg), .int (xs (l4 + (3 : Int32)).toNatClampNeg), .int (0 : Int32)]) G dL_law_832 kL_89 (wd_at hm.1) ⟨by decide, rfl⟩ (s_X12_sum hm G hc (by omega)) rfl (Nat.le_of_ble_eq_true rfl) (fun _ _ _ q => q.elim) ?_
      rintro _ _ ⟨rfl, rfl⟩
      refine V_lcmp dL_law_835 ?_
      refine V_if_eq (tgt := 1234) dL_law_836 (by decide) (fun c => ?_) (fun c => ?_)
      · replace hF := (if_pos c).symm.trans hF
        exact V_less (by omega) (by omega) (V_lv' (w_L_law_L1234 G2 hX hd hk23 _ _ _ hx hm ho hF) (v_all_c rfl (v_all_c rfl (v_all_c rfl (v_all_c rfl (v_all_c rfl v_all_n))))))
      · replace hF := (if_neg c).symm.trans hF
        refine V_iconst (v := 0) dL_law_839 (by decide) ?_
        cases hF
        exact V_ireturn dL_law_840 rfl (by decide) rfl
    · replace hF := (if_neg c).symm.trans hF
      refine V_iconst (v := 1) dL_law_827 (by decide) ?_
      refine V_goto (tgt := 832) dL_law_828 (by decide) ?_
      obtain ⟨y6, hc, hF⟩ := bd hF
      refine V_callV0 (as := [.int (xs (l4 + (1 : Int32)).toNatClampNeg), .int (xs (l4 + (2 : Int32)).toNatClampNeg), .int (xs (l4 + (3 : Int32)).toNatClampNeg), .int (1 : Int32)]) G dL_law_832 kL_89 (wd_at hm.1) ⟨by decide, rfl⟩ (s_X12_sum hm G hc (by omega)) rfl (Nat.le_of_ble_eq_true rfl) (fun _ _ _ q => q.elim) ?_
      rintro _ _ ⟨rfl, rfl⟩
      refine V_lcmp dL_law_835 ?_
      refine V_if_eq (tgt := 1234) dL_law_836 (by decide) (fun c => ?_) (fun c => ?_)
      · replace hF := (if_pos c).symm.trans hF
        exact V_less (by omega) (by omega) (V_lv' (w_L_law_L1234 G2 hX hd hk23 _ _ _ hx hm ho hF) (v_all_c rfl (v_all_c rfl (v_all_c rfl (v_all_c rfl (v_all_c rfl v_all_n))))))
      · replace hF := (if_neg c).symm.trans hF
        refine V_iconst (v := 0) dL_law_839 (by decide) ?_
        cases hF
        exact V_ireturn dL_law_840 rfl (by decide) rfl
set_option maxRecDepth 100000 in
set_option maxHeartbeats 4000000 in
theorem w_L_law_L841 {l : Launch} {s0 : State} {D : va_G} {a0 : Array Value} {f : Nat} {xs : Nat → Int32} {Ln b : Nat} {r : Int32} {d : Nat} (G2 : GC2 l s0 D a0) (hX : va_X b Ln xs s0 s0.heap) (hd : 31 ≤ d + 1) {mc ms : Nat} {k23 : List Sh → St → Int32 → Option Int32} (hk23 : ∀ (sh : List Sh) (S : St) (l4 : Int32), isX8 sh 0 → isX12 sh 94 → sh[158]? = some (.inl (.long, 1)) → k23 sh S l4 = some r → V l s0 D (d + 1) (mc) (ms) mL_law (fun v _ => v = some (.int r)) v_noX 23 [(0, .ref b), (1, .ref (s0.heap.size + 0)), (2, .ref (s0.heap.size + 94)), (3, .ref (s0.heap.size + 158)), (4, .int l4)] [] (wd s0.heap.size sh S)) : ∀ (sh : List Sh) (S : St) (l4 : Int32), isX8 sh 0 → isX12 sh 94 → sh[158]? = some (.inl (.long, 1)) → F_L_law_L841 f xs Ln k23 sh S l4 = some r → V l s0 D (d + 1) (mc + 11) (ms + 88) mL_law (fun v _ => v = some (.int r)) v_noX 841 [(0, .ref b), (1, .ref (s0.heap.size + 0)), (2, .ref (s0.heap.size + 94)), (3, .ref (s0.heap.size + 158)), (4, .int l4)] [] (wd s0.heap.size sh S) := by
  have G := G2.1
  intro sh S l4 hx hm ho hF
  unfold F_L_law_L841 at hF
  refine V_aload_n dL_law_841 rfl ?_
  refine V_aload_n dL_law_842 rfl ?_
  refine V_iload dL_law_843 rfl ?_
  refine V_iconst (v := 1) dL_law_845 (by decide) ?_
  refine V_iadd dL_law_846 ?_
  obtain ⟨hz, hF⟩ := gv_out hF
  refine V_sald dL_law_847 hX hz ?_
  refine V_aload_n dL_law_848 rfl ?_
  refine V_iload dL_law_849 rfl ?_
  refine V_iconst (v := 2) dL_law_851 (by decide) ?_
  refine V_iadd dL_law_852 ?_
  obtain ⟨hz, hF⟩ := gv_out hF
  refine V_sald dL_law_853 hX hz ?_
  refine V_aload_n dL_law_854 rfl ?_
  refine V_iload dL_law_855 rfl ?_
  refine V_iconst (v := 3) dL_law_857 (by decide) ?_
  refine V_iadd dL_law_858 ?_
  obtain ⟨hz, hF⟩ := gv_out hF
  refine V_sald dL_law_859 hX hz ?_
  refine V_aload_n dL_law_860 rfl ?_
  refine V_iload dL_law_861 rfl ?_
  refine V_iconst (v := 4) dL_law_863 (by decide) ?_
  refine V_iadd dL_law_864 ?_
  obtain ⟨hz, hF⟩ := gv_out hF
  refine V_sald dL_law_865 hX hz ?_
  refine V_if_eq (tgt := 873) dL_law_866 (by decide) (fun c => ?_) (fun c => ?_)
  · replace hF := (if_pos c).symm.trans hF
    refine V_iconst (v := 0) dL_law_873 (by decide) ?_
    obtain ⟨y1, hc, hF⟩ := bd hF
    refine V_callV0 (as := [.int (xs (l4 + (1 : Int32)).toNatClampNeg), .int (xs (l4 + (2 : Int32)).toNatClampNeg), .int (xs (l4 + (3 : Int32)).toNatClampNeg), .int (0 : Int32)]) G dL_law_874 kL_90 (wd_at hx.1) ⟨by decide, rfl⟩ (s_X8_byPairings hx G hc (by omega)) rfl (Nat.le_of_ble_eq_true rfl) (fun _ _ _ q => q.elim) ?_
    rintro _ _ ⟨rfl, rfl⟩
    refine V_aload_n dL_law_877 rfl ?_
    refine V_aload_n dL_law_878 rfl ?_
    refine V_iload dL_law_879 rfl ?_
    refine V_iconst (v := 1) dL_law_881 (by decide) ?_
    refine V_iadd dL_law_882 ?_
    obtain ⟨hz, hF⟩ := gv_out hF
    refine V_sald dL_law_883 hX hz ?_
    refine V_aload_n dL_law_884 rfl ?_
    refine V_iload dL_law_885 rfl ?_
    refine V_iconst (v := 2) dL_law_887 (by decide) ?_
    refine V_iadd dL_law_888 ?_
    obtain ⟨hz, hF⟩ := gv_out hF
    refine V_sald dL_law_889 hX hz ?_
    refine V_aload_n dL_law_890 rfl ?_
    refine V_iload dL_law_891 rfl ?_
    refine V_iconst (v := 3) dL_law_893 (by decide) ?_
    refine V_iadd dL_law_894 ?_
    obtain ⟨hz, hF⟩ := gv_out hF
    refine V_sald dL_law_895 hX hz ?_
    refine V_aload_n dL_law_896 rfl ?_
    refine V_iload dL_law_897 rfl ?_
    refine V_iconst (v := 4) dL_law_899 (by decide) ?_
    refine V_iadd dL_law_900 ?_
    obtain ⟨hz, hF⟩ := gv_out hF
    refine V_sald dL_law_901 hX hz ?_
    refine V_if_eq (tgt := 909) dL_law_902 (by decide) (fun c => ?_) (fun c => ?_)
    · replace hF := (if_pos c).symm.trans hF
      refine V_iconst (v := 0) dL_law_909 (by decide) ?_
      obtain ⟨y2, hc, hF⟩ := bd hF
      refine V_callV0 (as := [.int (xs (l4 + (1 : Int32)).toNatClampNeg), .int (xs (l4 + (2 : Int32)).toNatClampNeg), .int (xs (l4 + (3 : Int32)).toNatClampNeg), .int (0 : Int32)]) G dL_law_910 kL_93 (wd_at hm.1) ⟨by decide, rfl⟩ (s_X12_byPairings hm G hc (by omega)) rfl (Nat.le_of_ble_eq_true rfl) (fun _ _ _ q => q.elim) ?_
      rintro _ _ ⟨rfl, rfl⟩
      refine V_lcmp dL_law_913 ?_
      refine V_if_eq (tgt := 1234) dL_law_914 (by decide) (fun c => ?_) (fun c => ?_)
      · replace hF := (if_pos c).symm.trans hF
        exact V_less (by omega) (by omega) (V_lv' (w_L_law_L1234 G2 hX hd hk23 _ _ _ hx hm ho hF) (v_all_c rfl (v_all_c rfl (v_all_c rfl (v_all_c rfl (v_all_c rfl v_all_n))))))
      · replace hF := (if_neg c).symm.trans hF
        refine V_iconst (v := 0) dL_law_917 (by decide) ?_
        cases hF
        exact V_ireturn dL_law_918 rfl (by decide) rfl
    · replace hF := (if_neg c).symm.trans hF
      refine V_iconst (v := 1) dL_law_905 (by decide) ?_
      refine V_goto (tgt := 910) dL_law_906 (by decide) ?_
      obtain ⟨y3, hc, hF⟩ := bd hF
      refine V_callV0 (as := [.int (xs (l4 + (1 : Int32)).toNatClampNeg), .int (xs (l4 + (2 : Int32)).toNatClampNeg), .int (xs (l4 + (3 : Int32)).toNatClampNeg), .int (1 : Int32)]) G dL_law_910 kL_93 (wd_at hm.1) ⟨by decide, rfl⟩ (s_X12_byPairings hm G hc (by omega)) rfl (Nat.le_of_ble_eq_true rfl) (fun _ _ _ q => q.elim) ?_
      rintro _ _ ⟨rfl, rfl⟩
      refine V_lcmp dL_law_913 ?_
      refine V_if_eq (tgt := 1234) dL_law_914 (by decide) (fun c => ?_) (fun c => ?_)
      · replace hF := (if_pos c).symm.trans hF
        exact V_less (by omega) (by omega) (V_lv' (w_L_law_L1234 G2 hX hd hk23 _ _ _ hx hm ho hF) (v_all_c rfl (v_all_c rfl (v_all_c rfl (v_all_c rfl (v_all_c rfl v_all_n))))))
      · replace hF := (if_neg c).symm.trans hF
        refine V_iconst (v := 0) dL_law_917 (by decide) ?_
        cases hF
        exact V_ireturn dL_law_918 rfl (by decide) rfl
  · replace hF := (if_neg c).symm.trans hF
    refine V_iconst (v := 1) dL_law_869 (by decide) ?_
    refine V_goto (tgt := 874) dL_law_870 (by decide) ?_
    obtain ⟨y4, hc, hF⟩ := bd hF
    refine V_callV0 (as := [.int (xs (l4 + (1 : Int32)).toNatClampNeg), .int (xs (l4 + (2 : Int32)).toNatClampNeg), .int (xs (l4 + (3 : Int32)).toNatClampNeg), .int (1 : Int32)]) G dL_law_874 kL_90 (wd_at hx.1) ⟨by decide, rfl⟩ (s_X8_byPairings hx G hc (by omega)) rfl (Nat.le_of_ble_eq_true rfl) (fun _ _ _ q => q.elim) ?_
    rintro _ _ ⟨rfl, rfl⟩
    refine V_aload_n dL_law_877 rfl ?_
    refine V_aload_n dL_law_878 rfl ?_
    refine V_iload dL_law_879 rfl ?_
    refine V_iconst (v := 1) dL_law_881 (by decide) ?_
    refine V_iadd dL_law_882 ?_
    obtain ⟨hz, hF⟩ := gv_out hF
    refine V_sald dL_law_883 hX hz ?_
    refine V_aload_n dL_law_884 rfl ?_
    refine V_iload dL_law_885 rfl ?_
    refine V_iconst (v := 2) dL_law_887 (by decide) ?_
    refine V_iadd dL_law_888 ?_
    obtain ⟨hz, hF⟩ := gv_out hF
    refine V_sald dL_law_889 hX hz ?_
    refine V_aload_n dL_law_890 rfl ?_
    refine V_iload dL_law_891 rfl ?_
    refine V_iconst (v := 3) dL_law_893 (by decide) ?_
    refine V_iadd dL_law_894 ?_
    obtain ⟨hz, hF⟩ := gv_out hF
    refine V_sald dL_law_895 hX hz ?_
    refine V_aload_n dL_law_896 rfl ?_
    refine V_iload dL_law_897 rfl ?_
    refine V_iconst (v := 4) dL_law_899 (by decide) ?_
    refine V_iadd dL_law_900 ?_
    obtain ⟨hz, hF⟩ := gv_out hF
    refine V_sald dL_law_901 hX hz ?_
    refine V_if_eq (tgt := 909) dL_law_902 (by decide) (fun c => ?_) (fun c => ?_)
    · replace hF := (if_pos c).symm.trans hF
      refine V_iconst (v := 0) dL_law_909 (by decide) ?_
      obtain ⟨y5, hc, hF⟩ := bd hF
      refine V_callV0 (as := [.int (xs (l4 + (1 : Int32)).toNatClampNeg), .int (xs (l4 + (2 : Int32)).toNatClampNeg), .int (xs (l4 + (3 : Int32)).toNatClampNeg), .int (0 : Int32)]) G dL_law_910 kL_93 (wd_at hm.1) ⟨by decide, rfl⟩ (s_X12_byPairings hm G hc (by omega)) rfl (Nat.le_of_ble_eq_true rfl) (fun _ _ _ q => q.elim) ?_
      rintro _ _ ⟨rfl, rfl⟩
      refine V_lcmp dL_law_913 ?_
      refine V_if_eq (tgt := 1234) dL_law_914 (by decide) (fun c => ?_) (fun c => ?_)
      · replace hF := (if_pos c).symm.trans hF
        exact V_less (by omega) (by omega) (V_lv' (w_L_law_L1234 G2 hX hd hk23 _ _ _ hx hm ho hF) (v_all_c rfl (v_all_c rfl (v_all_c rfl (v_all_c rfl (v_all_c rfl v_all_n))))))
      · replace hF := (if_neg c).symm.trans hF
        refine V_iconst (v := 0) dL_law_917 (by decide) ?_
        cases hF
        exact V_ireturn dL_law_918 rfl (by decide) rfl
    · replace hF := (if_neg c).symm.trans hF
      refine V_iconst (v := 1) dL_law_905 (by decide) ?_
      refine V_goto (tgt := 910) dL_law_906 (by decide) ?_
      obtain ⟨y6, hc, hF⟩ := bd hF
      refine V_callV0 (as := [.int (xs (l4 + (1 : Int32)).toNatClampNeg), .int (xs (l4 + (2 : Int32)).toNatClampNeg), .int (xs (l4 + (3 : Int32)).toNatClampNeg), .int (1 : Int32)]) G dL_law_910 kL_93 (wd_at hm.1) ⟨by decide, rfl⟩ (s_X12_byPairings hm G hc (by omega)) rfl (Nat.le_of_ble_eq_true rfl) (fun _ _ _ q => q.elim) ?_
      rintro _ _ ⟨rfl, rfl⟩
      refine V_lcmp dL_law_913 ?_
      refine V_if_eq (tgt := 1234) dL_law_914 (by decide) (fun c => ?_) (fun c => ?_)
      · replace hF := (if_pos c).symm.trans hF
        exact V_less (by omega) (by omega) (V_lv' (w_L_law_L1234 G2 hX hd hk23 _ _ _ hx hm ho hF) (v_all_c rfl (v_all_c rfl (v_all_c rfl (v_all_c rfl (v_all_c rfl v_all_n))))))
      · replace hF := (if_neg c).symm.trans hF
        refine V_iconst (v := 0) dL_law_917 (by decide) ?_
        cases hF
        exact V_ireturn dL_law_918 rfl (by decide) rfl
set_option maxRecDepth 100000 in
set_option maxHeartbeats 4000000 in
theorem w_L_law_L919 {l : Launch} {s0 : State} {D : va_G} {a0 : Array Value} {f : Nat} {xs : Nat → Int32} {Ln b : Nat} {r : Int32} {d : Nat} (G2 : GC2 l s0 D a0) (hX : va_X b Ln xs s0 s0.heap) (hd : 31 ≤ d + 1) {mc ms : Nat} {k23 : List Sh → St → Int32 → Option Int32} (hk23 : ∀ (sh : List Sh) (S : St) (l4 : Int32), isX8 sh 0 → isX12 sh 94 → sh[158]? = some (.inl (.long, 1)) → k23 sh S l4 = some r → V l s0 D (d + 1) (mc) (ms) mL_law (fun v _ => v = some (.int r)) v_noX 23 [(0, .ref b), (1, .ref (s0.heap.size + 0)), (2, .ref (s0.heap.size + 94)), (3, .ref (s0.heap.size + 158)), (4, .int l4)] [] (wd s0.heap.size sh S)) : ∀ (sh : List Sh) (S : St) (l4 : Int32), isX8 sh 0 → isX12 sh 94 → sh[158]? = some (.inl (.long, 1)) → F_L_law_L919 f xs Ln k23 sh S l4 = some r → V l s0 D (d + 1) (mc + 11) (ms + 88) mL_law (fun v _ => v = some (.int r)) v_noX 919 [(0, .ref b), (1, .ref (s0.heap.size + 0)), (2, .ref (s0.heap.size + 94)), (3, .ref (s0.heap.size + 158)), (4, .int l4)] [] (wd s0.heap.size sh S) := by
  have G := G2.1
  intro sh S l4 hx hm ho hF
  unfold F_L_law_L919 at hF
  refine V_aload_n dL_law_919 rfl ?_
  refine V_aload_n dL_law_920 rfl ?_
  refine V_iload dL_law_921 rfl ?_
  refine V_iconst (v := 1) dL_law_923 (by decide) ?_
  refine V_iadd dL_law_924 ?_
  obtain ⟨hz, hF⟩ := gv_out hF
  refine V_sald dL_law_925 hX hz ?_
  refine V_aload_n dL_law_926 rfl ?_
  refine V_iload dL_law_927 rfl ?_
  refine V_iconst (v := 2) dL_law_929 (by decide) ?_
  refine V_iadd dL_law_930 ?_
  obtain ⟨hz, hF⟩ := gv_out hF
  refine V_sald dL_law_931 hX hz ?_
  obtain ⟨y1, hc, hF⟩ := bd hF
  refine V_callV0 (as := [.int (xs (l4 + (1 : Int32)).toNatClampNeg), .int (xs (l4 + (2 : Int32)).toNatClampNeg)]) G dL_law_932 kL_94 (wd_at hx.1) ⟨by decide, rfl⟩ (s_X8_number hx G hc (by omega)) rfl (Nat.le_of_ble_eq_true rfl) (fun _ _ _ q => q.elim) ?_
  rintro _ _ ⟨rfl, rfl⟩
  refine V_aload_n dL_law_935 rfl ?_
  refine V_aload_n dL_law_936 rfl ?_
  refine V_iload dL_law_937 rfl ?_
  refine V_iconst (v := 1) dL_law_939 (by decide) ?_
  refine V_iadd dL_law_940 ?_
  obtain ⟨hz, hF⟩ := gv_out hF
  refine V_sald dL_law_941 hX hz ?_
  refine V_aload_n dL_law_942 rfl ?_
  refine V_iload dL_law_943 rfl ?_
  refine V_iconst (v := 2) dL_law_945 (by decide) ?_
  refine V_iadd dL_law_946 ?_
  obtain ⟨hz, hF⟩ := gv_out hF
  refine V_sald dL_law_947 hX hz ?_
  obtain ⟨y2, hc, hF⟩ := bd hF
  refine V_callV0 (as := [.int (xs (l4 + (1 : Int32)).toNatClampNeg), .int (xs (l4 + (2 : Int32)).toNatClampNeg)]) G dL_law_948 kL_98 (wd_at hm.1) ⟨by decide, rfl⟩ (s_X12_number hm G hc (by omega)) rfl (Nat.le_of_ble_eq_true rfl) (fun _ _ _ q => q.elim) ?_
  rintro _ _ ⟨rfl, rfl⟩
  refine V_icmp_eq (tgt := 1234) dL_law_951 (by decide) (fun c => ?_) (fun c => ?_)
  · replace hF := (if_pos c).symm.trans hF
    exact V_less (by omega) (by omega) (V_lv' (w_L_law_L1234 G2 hX hd hk23 _ _ _ hx hm ho hF) (v_all_c rfl (v_all_c rfl (v_all_c rfl (v_all_c rfl (v_all_c rfl v_all_n))))))
  · replace hF := (if_neg c).symm.trans hF
    refine V_iconst (v := 0) dL_law_954 (by decide) ?_
    cases hF
    exact V_ireturn dL_law_955 rfl (by decide) rfl
set_option maxRecDepth 100000 in
set_option maxHeartbeats 4000000 in
theorem w_L_law_L956 {l : Launch} {s0 : State} {D : va_G} {a0 : Array Value} {f : Nat} {xs : Nat → Int32} {Ln b : Nat} {r : Int32} {d : Nat} (G2 : GC2 l s0 D a0) (hX : va_X b Ln xs s0 s0.heap) (hd : 31 ≤ d + 1) {mc ms : Nat} {k23 : List Sh → St → Int32 → Option Int32} (hk23 : ∀ (sh : List Sh) (S : St) (l4 : Int32), isX8 sh 0 → isX12 sh 94 → sh[158]? = some (.inl (.long, 1)) → k23 sh S l4 = some r → V l s0 D (d + 1) (mc) (ms) mL_law (fun v _ => v = some (.int r)) v_noX 23 [(0, .ref b), (1, .ref (s0.heap.size + 0)), (2, .ref (s0.heap.size + 94)), (3, .ref (s0.heap.size + 158)), (4, .int l4)] [] (wd s0.heap.size sh S)) : ∀ (sh : List Sh) (S : St) (l4 : Int32), isX8 sh 0 → isX12 sh 94 → sh[158]? = some (.inl (.long, 1)) → F_L_law_L956 f xs Ln k23 sh S l4 = some r → V l s0 D (d + 1) (mc + 11) (ms + 88) mL_law (fun v _ => v = some (.int r)) v_noX 956 [(0, .ref b), (1, .ref (s0.heap.size + 0)), (2, .ref (s0.heap.size + 94)), (3, .ref (s0.heap.size + 158)), (4, .int l4)] [] (wd s0.heap.size sh S) := by
  have G := G2.1
  intro sh S l4 hx hm ho hF
  unfold F_L_law_L956 at hF
  refine V_aload_n dL_law_956 rfl ?_
  refine V_aload_n dL_law_957 rfl ?_
  refine V_iload dL_law_958 rfl ?_
  refine V_iconst (v := 1) dL_law_960 (by decide) ?_
  refine V_iadd dL_law_961 ?_
  obtain ⟨hz, hF⟩ := gv_out hF
  refine V_sald dL_law_962 hX hz ?_
  refine V_aload_n dL_law_963 rfl ?_
  refine V_iload dL_law_964 rfl ?_
  refine V_iconst (v := 2) dL_law_966 (by decide) ?_
  refine V_iadd dL_law_967 ?_
  obtain ⟨hz, hF⟩ := gv_out hF
  refine V_sald dL_law_968 hX hz ?_
  obtain ⟨y1, hc, hF⟩ := bd hF
  refine V_callV0 (as := [.int (xs (l4 + (1 : Int32)).toNatClampNeg), .int (xs (l4 + (2 : Int32)).toNatClampNeg)]) G dL_law_969 kL_99 (wd_at hx.1) ⟨by decide, rfl⟩ (s_X8_letter hx G hc (by omega)) rfl (Nat.le_of_ble_eq_true rfl) (fun _ _ _ q => q.elim) ?_
  rintro _ _ ⟨rfl, rfl⟩
  refine V_aload_n dL_law_972 rfl ?_
  refine V_aload_n dL_law_973 rfl ?_
  refine V_iload dL_law_974 rfl ?_
  refine V_iconst (v := 1) dL_law_976 (by decide) ?_
  refine V_iadd dL_law_977 ?_
  obtain ⟨hz, hF⟩ := gv_out hF
  refine V_sald dL_law_978 hX hz ?_
  refine V_aload_n dL_law_979 rfl ?_
  refine V_iload dL_law_980 rfl ?_
  refine V_iconst (v := 2) dL_law_982 (by decide) ?_
  refine V_iadd dL_law_983 ?_
  obtain ⟨hz, hF⟩ := gv_out hF
  refine V_sald dL_law_984 hX hz ?_
  obtain ⟨y2, hc, hF⟩ := bd hF
  refine V_callV0 (as := [.int (xs (l4 + (1 : Int32)).toNatClampNeg), .int (xs (l4 + (2 : Int32)).toNatClampNeg)]) G dL_law_985 kL_102 (wd_at hm.1) ⟨by decide, rfl⟩ (s_X12_letter hm G hc (by omega)) rfl (Nat.le_of_ble_eq_true rfl) (fun _ _ _ q => q.elim) ?_
  rintro _ _ ⟨rfl, rfl⟩
  refine V_icmp_eq (tgt := 1234) dL_law_988 (by decide) (fun c => ?_) (fun c => ?_)
  · replace hF := (if_pos c).symm.trans hF
    exact V_less (by omega) (by omega) (V_lv' (w_L_law_L1234 G2 hX hd hk23 _ _ _ hx hm ho hF) (v_all_c rfl (v_all_c rfl (v_all_c rfl (v_all_c rfl (v_all_c rfl v_all_n))))))
  · replace hF := (if_neg c).symm.trans hF
    refine V_iconst (v := 0) dL_law_991 (by decide) ?_
    cases hF
    exact V_ireturn dL_law_992 rfl (by decide) rfl
set_option maxRecDepth 100000 in
set_option maxHeartbeats 4000000 in
theorem w_L_law_L993 {l : Launch} {s0 : State} {D : va_G} {a0 : Array Value} {f : Nat} {xs : Nat → Int32} {Ln b : Nat} {r : Int32} {d : Nat} (G2 : GC2 l s0 D a0) (hX : va_X b Ln xs s0 s0.heap) (hd : 31 ≤ d + 1) {mc ms : Nat} {k23 : List Sh → St → Int32 → Option Int32} (hk23 : ∀ (sh : List Sh) (S : St) (l4 : Int32), isX8 sh 0 → isX12 sh 94 → sh[158]? = some (.inl (.long, 1)) → k23 sh S l4 = some r → V l s0 D (d + 1) (mc) (ms) mL_law (fun v _ => v = some (.int r)) v_noX 23 [(0, .ref b), (1, .ref (s0.heap.size + 0)), (2, .ref (s0.heap.size + 94)), (3, .ref (s0.heap.size + 158)), (4, .int l4)] [] (wd s0.heap.size sh S)) : ∀ (sh : List Sh) (S : St) (l4 : Int32), isX8 sh 0 → isX12 sh 94 → sh[158]? = some (.inl (.long, 1)) → F_L_law_L993 f xs Ln k23 sh S l4 = some r → V l s0 D (d + 1) (mc + 11) (ms + 88) mL_law (fun v _ => v = some (.int r)) v_noX 993 [(0, .ref b), (1, .ref (s0.heap.size + 0)), (2, .ref (s0.heap.size + 94)), (3, .ref (s0.heap.size + 158)), (4, .int l4)] [] (wd s0.heap.size sh S) := by
  have G := G2.1
  intro sh S l4 hx hm ho hF
  unfold F_L_law_L993 at hF
  refine V_aload_n dL_law_993 rfl ?_
  refine V_aload_n dL_law_994 rfl ?_
  refine V_iload dL_law_995 rfl ?_
  refine V_iconst (v := 1) dL_law_997 (by decide) ?_
  refine V_iadd dL_law_998 ?_
  obtain ⟨hz, hF⟩ := gv_out hF
  refine V_sald dL_law_999 hX hz ?_
  obtain ⟨y1, hc, hF⟩ := bd hF
  refine V_callV0 (as := [.int (xs (l4 + (1 : Int32)).toNatClampNeg)]) G dL_law_1000 kL_103 (wd_at hx.1) ⟨by decide, rfl⟩ (s_X8_at hx G hc (by omega)) rfl (Nat.le_of_ble_eq_true rfl) (fun _ _ _ q => q.elim) ?_
  rintro _ _ ⟨rfl, rfl⟩
  refine V_aload_n dL_law_1003 rfl ?_
  refine V_aload_n dL_law_1004 rfl ?_
  refine V_iload dL_law_1005 rfl ?_
  refine V_iconst (v := 1) dL_law_1007 (by decide) ?_
  refine V_iadd dL_law_1008 ?_
  obtain ⟨hz, hF⟩ := gv_out hF
  refine V_sald dL_law_1009 hX hz ?_
  obtain ⟨y2, hc, hF⟩ := bd hF
  refine V_callV0 (as := [.int (xs (l4 + (1 : Int32)).toNatClampNeg)]) G dL_law_1010 kL_107 (wd_at hm.1) ⟨by decide, rfl⟩ (s_X12_at hm G hc (by omega)) rfl (Nat.le_of_ble_eq_true rfl) (fun _ _ _ q => q.elim) ?_
  rintro _ _ ⟨rfl, rfl⟩
  refine V_icmp_eq (tgt := 1234) dL_law_1013 (by decide) (fun c => ?_) (fun c => ?_)
  · replace hF := (if_pos c).symm.trans hF
    exact V_less (by omega) (by omega) (V_lv' (w_L_law_L1234 G2 hX hd hk23 _ _ _ hx hm ho hF) (v_all_c rfl (v_all_c rfl (v_all_c rfl (v_all_c rfl (v_all_c rfl v_all_n))))))
  · replace hF := (if_neg c).symm.trans hF
    refine V_iconst (v := 0) dL_law_1016 (by decide) ?_
    cases hF
    exact V_ireturn dL_law_1017 rfl (by decide) rfl
set_option maxRecDepth 100000 in
set_option maxHeartbeats 4000000 in
theorem w_L_law_L1018 {l : Launch} {s0 : State} {D : va_G} {a0 : Array Value} {f : Nat} {xs : Nat → Int32} {Ln b : Nat} {r : Int32} {d : Nat} (G2 : GC2 l s0 D a0) (hX : va_X b Ln xs s0 s0.heap) (hd : 31 ≤ d + 1) {mc ms : Nat} {k23 : List Sh → St → Int32 → Option Int32} (hk23 : ∀ (sh : List Sh) (S : St) (l4 : Int32), isX8 sh 0 → isX12 sh 94 → sh[158]? = some (.inl (.long, 1)) → k23 sh S l4 = some r → V l s0 D (d + 1) (mc) (ms) mL_law (fun v _ => v = some (.int r)) v_noX 23 [(0, .ref b), (1, .ref (s0.heap.size + 0)), (2, .ref (s0.heap.size + 94)), (3, .ref (s0.heap.size + 158)), (4, .int l4)] [] (wd s0.heap.size sh S)) : ∀ (sh : List Sh) (S : St) (l4 : Int32), isX8 sh 0 → isX12 sh 94 → sh[158]? = some (.inl (.long, 1)) → F_L_law_L1018 f xs Ln k23 sh S l4 = some r → V l s0 D (d + 1) (mc + 11) (ms + 88) mL_law (fun v _ => v = some (.int r)) v_noX 1018 [(0, .ref b), (1, .ref (s0.heap.size + 0)), (2, .ref (s0.heap.size + 94)), (3, .ref (s0.heap.size + 158)), (4, .int l4)] [] (wd s0.heap.size sh S) := by
  have G := G2.1
  intro sh S l4 hx hm ho hF
  unfold F_L_law_L1018 at hF
  refine V_aload_n dL_law_1018 rfl ?_
  refine V_aload_n dL_law_1019 rfl ?_
  refine V_iload dL_law_1020 rfl ?_
  refine V_iconst (v := 1) dL_law_1022 (by decide) ?_
  refine V_iadd dL_law_1023 ?_
  obtain ⟨hz, hF⟩ := gv_out hF
  refine V_sald dL_law_1024 hX hz ?_
  refine V_aload_n dL_law_1025 rfl ?_
  refine V_iload dL_law_1026 rfl ?_
  refine V_iconst (v := 2) dL_law_1028 (by decide) ?_
  refine V_iadd dL_law_1029 ?_
  obtain ⟨hz, hF⟩ := gv_out hF
  refine V_sald dL_law_1030 hX hz ?_
  refine V_aload_n dL_law_1031 rfl ?_
  refine V_iload dL_law_1032 rfl ?_
  refine V_iconst (v := 3) dL_law_1034 (by decide) ?_
  refine V_iadd dL_law_1035 ?_
  obtain ⟨hz, hF⟩ := gv_out hF
  refine V_sald dL_law_1036 hX hz ?_
  obtain ⟨y1, hc, hF⟩ := bd hF
  refine V_callV0 (as := [.int (xs (l4 + (1 : Int32)).toNatClampNeg), .int (xs (l4 + (2 : Int32)).toNatClampNeg), .int (xs (l4 + (3 : Int32)).toNatClampNeg)]) G dL_law_1037 kL_108 (wd_at hx.1) ⟨by decide, rfl⟩ (s_X8_parted hx G hc (by omega)) rfl (Nat.le_of_ble_eq_true rfl) (fun _ _ _ q => q.elim) ?_
  rintro _ _ ⟨rfl, rfl⟩
  refine V_aload_n dL_law_1040 rfl ?_
  refine V_aload_n dL_law_1041 rfl ?_
  refine V_iload dL_law_1042 rfl ?_
  refine V_iconst (v := 1) dL_law_1044 (by decide) ?_
  refine V_iadd dL_law_1045 ?_
  obtain ⟨hz, hF⟩ := gv_out hF
  refine V_sald dL_law_1046 hX hz ?_
  refine V_aload_n dL_law_1047 rfl ?_
  refine V_iload dL_law_1048 rfl ?_
  refine V_iconst (v := 2) dL_law_1050 (by decide) ?_
  refine V_iadd dL_law_1051 ?_
  obtain ⟨hz, hF⟩ := gv_out hF
  refine V_sald dL_law_1052 hX hz ?_
  refine V_aload_n dL_law_1053 rfl ?_
  refine V_iload dL_law_1054 rfl ?_
  refine V_iconst (v := 3) dL_law_1056 (by decide) ?_
  refine V_iadd dL_law_1057 ?_
  obtain ⟨hz, hF⟩ := gv_out hF
  refine V_sald dL_law_1058 hX hz ?_
  obtain ⟨y2, hc, hF⟩ := bd hF
  refine V_callV0 (as := [.int (xs (l4 + (1 : Int32)).toNatClampNeg), .int (xs (l4 + (2 : Int32)).toNatClampNeg), .int (xs (l4 + (3 : Int32)).toNatClampNeg)]) G dL_law_1059 kL_112 (wd_at hm.1) ⟨by decide, rfl⟩ (s_X12_parted hm G hc (by omega)) rfl (Nat.le_of_ble_eq_true rfl) (fun _ _ _ q => q.elim) ?_
  rintro _ _ ⟨rfl, rfl⟩
  refine V_icmp_eq (tgt := 1234) dL_law_1062 (by decide) (fun c => ?_) (fun c => ?_)
  · replace hF := (if_pos c).symm.trans hF
    exact V_less (by omega) (by omega) (V_lv' (w_L_law_L1234 G2 hX hd hk23 _ _ _ hx hm ho hF) (v_all_c rfl (v_all_c rfl (v_all_c rfl (v_all_c rfl (v_all_c rfl v_all_n))))))
  · replace hF := (if_neg c).symm.trans hF
    refine V_iconst (v := 0) dL_law_1065 (by decide) ?_
    cases hF
    exact V_ireturn dL_law_1066 rfl (by decide) rfl
set_option maxRecDepth 100000 in
set_option maxHeartbeats 4000000 in
theorem w_L_law_L1067 {l : Launch} {s0 : State} {D : va_G} {a0 : Array Value} {f : Nat} {xs : Nat → Int32} {Ln b : Nat} {r : Int32} {d : Nat} (G2 : GC2 l s0 D a0) (hX : va_X b Ln xs s0 s0.heap) (hd : 31 ≤ d + 1) {mc ms : Nat} {k23 : List Sh → St → Int32 → Option Int32} (hk23 : ∀ (sh : List Sh) (S : St) (l4 : Int32), isX8 sh 0 → isX12 sh 94 → sh[158]? = some (.inl (.long, 1)) → k23 sh S l4 = some r → V l s0 D (d + 1) (mc) (ms) mL_law (fun v _ => v = some (.int r)) v_noX 23 [(0, .ref b), (1, .ref (s0.heap.size + 0)), (2, .ref (s0.heap.size + 94)), (3, .ref (s0.heap.size + 158)), (4, .int l4)] [] (wd s0.heap.size sh S)) : ∀ (sh : List Sh) (S : St) (l4 : Int32), isX8 sh 0 → isX12 sh 94 → sh[158]? = some (.inl (.long, 1)) → F_L_law_L1067 f xs Ln k23 sh S l4 = some r → V l s0 D (d + 1) (mc + 11) (ms + 88) mL_law (fun v _ => v = some (.int r)) v_noX 1067 [(0, .ref b), (1, .ref (s0.heap.size + 0)), (2, .ref (s0.heap.size + 94)), (3, .ref (s0.heap.size + 158)), (4, .int l4)] [] (wd s0.heap.size sh S) := by
  have G := G2.1
  intro sh S l4 hx hm ho hF
  unfold F_L_law_L1067 at hF
  refine V_aload_n dL_law_1067 rfl ?_
  refine V_aload_n dL_law_1068 rfl ?_
  refine V_iload dL_law_1069 rfl ?_
  refine V_iconst (v := 1) dL_law_1071 (by decide) ?_
  refine V_iadd dL_law_1072 ?_
  obtain ⟨hz, hF⟩ := gv_out hF
  refine V_sald dL_law_1073 hX hz ?_
  refine V_aload_n dL_law_1074 rfl ?_
  refine V_iload dL_law_1075 rfl ?_
  refine V_iconst (v := 2) dL_law_1077 (by decide) ?_
  refine V_iadd dL_law_1078 ?_
  obtain ⟨hz, hF⟩ := gv_out hF
  refine V_sald dL_law_1079 hX hz ?_
  refine V_aload_n dL_law_1080 rfl ?_
  refine V_iload dL_law_1081 rfl ?_
  refine V_iconst (v := 3) dL_law_1083 (by decide) ?_
  refine V_iadd dL_law_1084 ?_
  obtain ⟨hz, hF⟩ := gv_out hF
  refine V_sald dL_law_1085 hX hz ?_
  obtain ⟨y1, hc, hF⟩ := bd hF
  refine V_callV0 (as := [.int (xs (l4 + (1 : Int32)).toNatClampNeg), .int (xs (l4 + (2 : Int32)).toNatClampNeg), .int (xs (l4 + (3 : Int32)).toNatClampNeg)]) G dL_law_1086 kL_113 (wd_at hx.1) ⟨by decide, rfl⟩ (s_X8_whole hx G hc (by omega)) rfl (Nat.le_of_ble_eq_true rfl) (fun _ _ _ q => q.elim) ?_
  rintro _ _ ⟨rfl, rfl⟩
  refine V_aload_n dL_law_1089 rfl ?_
  refine V_aload_n dL_law_1090 rfl ?_
  refine V_iload dL_law_1091 rfl ?_
  refine V_iconst (v := 1) dL_law_1093 (by decide) ?_
  refine V_iadd dL_law_1094 ?_
  obtain ⟨hz, hF⟩ := gv_out hF
  refine V_sald dL_law_1095 hX hz ?_
  refine V_aload_n dL_law_1096 rfl ?_
  refine V_iload dL_law_1097 rfl ?_
  refine V_iconst (v := 2) dL_law_1099 (by decide) ?_
  refine V_iadd dL_law_1100 ?_
  obtain ⟨hz, hF⟩ := gv_out hF
  refine V_sald dL_law_1101 hX hz ?_
  refine V_aload_n dL_law_1102 rfl ?_
  refine V_iload dL_law_1103 rfl ?_
  refine V_iconst (v := 3) dL_law_1105 (by decide) ?_
  refine V_iadd dL_law_1106 ?_
  obtain ⟨hz, hF⟩ := gv_out hF
  refine V_sald dL_law_1107 hX hz ?_
  obtain ⟨y2, hc, hF⟩ := bd hF
  refine V_callV0 (as := [.int (xs (l4 + (1 : Int32)).toNatClampNeg), .int (xs (l4 + (2 : Int32)).toNatClampNeg), .int (xs (l4 + (3 : Int32)).toNatClampNeg)]) G dL_law_1108 kL_116 (wd_at hm.1) ⟨by decide, rfl⟩ (s_X12_whole hm G hc (by omega)) rfl (Nat.le_of_ble_eq_true rfl) (fun _ _ _ q => q.elim) ?_
  rintro _ _ ⟨rfl, rfl⟩
  refine V_icmp_eq (tgt := 1234) dL_law_1111 (by decide) (fun c => ?_) (fun c => ?_)
  · replace hF := (if_pos c).symm.trans hF
    exact V_less (by omega) (by omega) (V_lv' (w_L_law_L1234 G2 hX hd hk23 _ _ _ hx hm ho hF) (v_all_c rfl (v_all_c rfl (v_all_c rfl (v_all_c rfl (v_all_c rfl v_all_n))))))
  · replace hF := (if_neg c).symm.trans hF
    refine V_iconst (v := 0) dL_law_1114 (by decide) ?_
    cases hF
    exact V_ireturn dL_law_1115 rfl (by decide) rfl
set_option maxRecDepth 100000 in
set_option maxHeartbeats 4000000 in
theorem w_L_law_L1116 {l : Launch} {s0 : State} {D : va_G} {a0 : Array Value} {f : Nat} {xs : Nat → Int32} {Ln b : Nat} {r : Int32} {d : Nat} (G2 : GC2 l s0 D a0) (hX : va_X b Ln xs s0 s0.heap) (hd : 31 ≤ d + 1) {mc ms : Nat} {k23 : List Sh → St → Int32 → Option Int32} (hk23 : ∀ (sh : List Sh) (S : St) (l4 : Int32), isX8 sh 0 → isX12 sh 94 → sh[158]? = some (.inl (.long, 1)) → k23 sh S l4 = some r → V l s0 D (d + 1) (mc) (ms) mL_law (fun v _ => v = some (.int r)) v_noX 23 [(0, .ref b), (1, .ref (s0.heap.size + 0)), (2, .ref (s0.heap.size + 94)), (3, .ref (s0.heap.size + 158)), (4, .int l4)] [] (wd s0.heap.size sh S)) : ∀ (sh : List Sh) (S : St) (l4 : Int32), isX8 sh 0 → isX12 sh 94 → sh[158]? = some (.inl (.long, 1)) → F_L_law_L1116 f xs Ln k23 sh S l4 = some r → V l s0 D (d + 1) (mc + 11) (ms + 88) mL_law (fun v _ => v = some (.int r)) v_noX 1116 [(0, .ref b), (1, .ref (s0.heap.size + 0)), (2, .ref (s0.heap.size + 94)), (3, .ref (s0.heap.size + 158)), (4, .int l4)] [] (wd s0.heap.size sh S) := by
  have G := G2.1
  intro sh S l4 hx hm ho hF
  unfold F_L_law_L1116 at hF
  refine V_aload_n dL_law_1116 rfl ?_
  refine V_aload_n dL_law_1117 rfl ?_
  refine V_iload dL_law_1118 rfl ?_
  refine V_iconst (v := 1) dL_law_1120 (by decide) ?_
  refine V_iadd dL_law_1121 ?_
  obtain ⟨hz, hF⟩ := gv_out hF
  refine V_sald dL_law_1122 hX hz ?_
  refine V_if_eq (tgt := 1130) dL_law_1123 (by decide) (fun c => ?_) (fun c => ?_)
  · replace hF := (if_pos c).symm.trans hF
    refine V_iconst (v := 0) dL_law_1130 (by decide) ?_
    obtain ⟨y1, hc, hF⟩ := bd hF
    refine V_callV0 (as := [.int (0 : Int32)]) G dL_law_1131 kL_117 (wd_at hx.1) ⟨by decide, rfl⟩ (s_X8_worth hx G hc (by omega)) rfl (Nat.le_of_ble_eq_true rfl) (fun _ _ _ q => q.elim) ?_
    rintro _ _ ⟨rfl, rfl⟩
    refine V_aload_n dL_law_1134 rfl ?_
    refine V_aload_n dL_law_1135 rfl ?_
    refine V_iload dL_law_1136 rfl ?_
    refine V_iconst (v := 1) dL_law_1138 (by decide) ?_
    refine V_iadd dL_law_1139 ?_
    obtain ⟨hz, hF⟩ := gv_out hF
    refine V_sald dL_law_1140 hX hz ?_
    refine V_if_eq (tgt := 1148) dL_law_1141 (by decide) (fun c => ?_) (fun c => ?_)
    · replace hF := (if_pos c).symm.trans hF
      refine V_iconst (v := 0) dL_law_1148 (by decide) ?_
      obtain ⟨y2, hc, hF⟩ := bd hF
      refine V_callV0 (as := [.int (0 : Int32)]) G dL_law_1149 kL_121 (wd_at hm.1) ⟨by decide, rfl⟩ (s_X12_worth hm G hc (by omega)) rfl (Nat.le_of_ble_eq_true rfl) (fun _ _ _ q => q.elim) ?_
      rintro _ _ ⟨rfl, rfl⟩
      refine V_lcmp dL_law_1152 ?_
      refine V_if_eq (tgt := 1234) dL_law_1153 (by decide) (fun c => ?_) (fun c => ?_)
      · replace hF := (if_pos c).symm.trans hF
        exact V_less (by omega) (by omega) (V_lv' (w_L_law_L1234 G2 hX hd hk23 _ _ _ hx hm ho hF) (v_all_c rfl (v_all_c rfl (v_all_c rfl (v_all_c rfl (v_all_c rfl v_all_n))))))
      · replace hF := (if_neg c).symm.trans hF
        refine V_iconst (v := 0) dL_law_1156 (by decide) ?_
        cases hF
        exact V_ireturn dL_law_1157 rfl (by decide) rfl
    · replace hF := (if_neg c).symm.trans hF
      refine V_iconst (v := 1) dL_law_1144 (by decide) ?_
      refine V_goto (tgt := 1149) dL_law_1145 (by decide) ?_
      obtain ⟨y3, hc, hF⟩ := bd hF
      refine V_callV0 (as := [.int (1 : Int32)]) G dL_law_1149 kL_121 (wd_at hm.1) ⟨by decide, rfl⟩ (s_X12_worth hm G hc (by omega)) rfl (Nat.le_of_ble_eq_true rfl) (fun _ _ _ q => q.elim) ?_
      rintro _ _ ⟨rfl, rfl⟩
      refine V_lcmp dL_law_1152 ?_
      refine V_if_eq (tgt := 1234) dL_law_1153 (by decide) (fun c => ?_) (fun c => ?_)
      · replace hF := (if_pos c).symm.trans hF
        exact V_less (by omega) (by omega) (V_lv' (w_L_law_L1234 G2 hX hd hk23 _ _ _ hx hm ho hF) (v_all_c rfl (v_all_c rfl (v_all_c rfl (v_all_c rfl (v_all_c rfl v_all_n))))))
      · replace hF := (if_neg c).symm.trans hF
        refine V_iconst (v := 0) dL_law_1156 (by decide) ?_
        cases hF
        exact V_ireturn dL_law_1157 rfl (by decide) rfl
  · replace hF := (if_neg c).symm.trans hF
    refine V_iconst (v := 1) dL_law_1126 (by decide) ?_
    refine V_goto (tgt := 1131) dL_law_1127 (by decide) ?_
    obtain ⟨y4, hc, hF⟩ := bd hF
    refine V_callV0 (as := [.int (1 : Int32)]) G dL_law_1131 kL_117 (wd_at hx.1) ⟨by decide, rfl⟩ (s_X8_worth hx G hc (by omega)) rfl (Nat.le_of_ble_eq_true rfl) (fun _ _ _ q => q.elim) ?_
    rintro _ _ ⟨rfl, rfl⟩
    refine V_aload_n dL_law_1134 rfl ?_
    refine V_aload_n dL_law_1135 rfl ?_
    refine V_iload dL_law_1136 rfl ?_
    refine V_iconst (v := 1) dL_law_1138 (by decide) ?_
    refine V_iadd dL_law_1139 ?_
    obtain ⟨hz, hF⟩ := gv_out hF
    refine V_sald dL_law_1140 hX hz ?_
    refine V_if_eq (tgt := 1148) dL_law_1141 (by decide) (fun c => ?_) (fun c => ?_)
    · replace hF := (if_pos c).symm.trans hF
      refine V_iconst (v := 0) dL_law_1148 (by decide) ?_
      obtain ⟨y5, hc, hF⟩ := bd hF
      refine V_callV0 (as := [.int (0 : Int32)]) G dL_law_1149 kL_121 (wd_at hm.1) ⟨by decide, rfl⟩ (s_X12_worth hm G hc (by omega)) rfl (Nat.le_of_ble_eq_true rfl) (fun _ _ _ q => q.elim) ?_
      rintro _ _ ⟨rfl, rfl⟩
      refine V_lcmp dL_law_1152 ?_
      refine V_if_eq (tgt := 1234) dL_law_1153 (by decide) (fun c => ?_) (fun c => ?_)
      · replace hF := (if_pos c).symm.trans hF
        exact V_less (by omega) (by omega) (V_lv' (w_L_law_L1234 G2 hX hd hk23 _ _ _ hx hm ho hF) (v_all_c rfl (v_all_c rfl (v_all_c rfl (v_all_c rfl (v_all_c rfl v_all_n))))))
      · replace hF := (if_neg c).symm.trans hF
        refine V_iconst (v := 0) dL_law_1156 (by decide) ?_
        cases hF
        exact V_ireturn dL_law_1157 rfl (by decide) rfl
    · replace hF := (if_neg c).symm.trans hF
      refine V_iconst (v := 1) dL_law_1144 (by decide) ?_
      refine V_goto (tgt := 1149) dL_law_1145 (by decide) ?_
      obtain ⟨y6, hc, hF⟩ := bd hF
      refine V_callV0 (as := [.int (1 : Int32)]) G dL_law_1149 kL_121 (wd_at hm.1) ⟨by decide, rfl⟩ (s_X12_worth hm G hc (by omega)) rfl (Nat.le_of_ble_eq_true rfl) (fun _ _ _ q => q.elim) ?_
      rintro _ _ ⟨rfl, rfl⟩
      refine V_lcmp dL_law_1152 ?_
      refine V_if_eq (tgt := 1234) dL_law_1153 (by decide) (fun c => ?_) (fun c => ?_)
      · replace hF := (if_pos c).symm.trans hF
        exact V_less (by omega) (by omega) (V_lv' (w_L_law_L1234 G2 hX hd hk23 _ _ _ hx hm ho hF) (v_all_c rfl (v_all_c rfl (v_all_c rfl (v_all_c rfl (v_all_c rfl v_all_n))))))
      · replace hF := (if_neg c).symm.trans hF
        refine V_iconst (v := 0) dL_law_1156 (by decide) ?_
        cases hF
        exact V_ireturn dL_law_1157 rfl (by decide) rfl
set_option maxRecDepth 100000 in
set_option maxHeartbeats 4000000 in
theorem w_L_law_L1158 {l : Launch} {s0 : State} {D : va_G} {a0 : Array Value} {f : Nat} {xs : Nat → Int32} {Ln b : Nat} {r : Int32} {d : Nat} (G2 : GC2 l s0 D a0) (hX : va_X b Ln xs s0 s0.heap) (hd : 31 ≤ d + 1) {mc ms : Nat} {k23 : List Sh → St → Int32 → Option Int32} (hk23 : ∀ (sh : List Sh) (S : St) (l4 : Int32), isX8 sh 0 → isX12 sh 94 → sh[158]? = some (.inl (.long, 1)) → k23 sh S l4 = some r → V l s0 D (d + 1) (mc) (ms) mL_law (fun v _ => v = some (.int r)) v_noX 23 [(0, .ref b), (1, .ref (s0.heap.size + 0)), (2, .ref (s0.heap.size + 94)), (3, .ref (s0.heap.size + 158)), (4, .int l4)] [] (wd s0.heap.size sh S)) : ∀ (sh : List Sh) (S : St) (l4 : Int32), isX8 sh 0 → isX12 sh 94 → sh[158]? = some (.inl (.long, 1)) → F_L_law_L1158 f xs Ln k23 sh S l4 = some r → V l s0 D (d + 1) (mc + 11) (ms + 88) mL_law (fun v _ => v = some (.int r)) v_noX 1158 [(0, .ref b), (1, .ref (s0.heap.size + 0)), (2, .ref (s0.heap.size + 94)), (3, .ref (s0.heap.size + 158)), (4, .int l4)] [] (wd s0.heap.size sh S) := by
  have G := G2.1
  intro sh S l4 hx hm ho hF
  unfold F_L_law_L1158 at hF
  refine V_aload_n dL_law_1158 rfl ?_
  refine V_aload_n dL_law_1159 rfl ?_
  refine V_iload dL_law_1160 rfl ?_
  refine V_iconst (v := 1) dL_law_1162 (by decide) ?_
  refine V_iadd dL_law_1163 ?_
  obtain ⟨hz, hF⟩ := gv_out hF
  refine V_sald dL_law_1164 hX hz ?_
  obtain ⟨y1, hc, hF⟩ := bd hF
  refine V_callV0 (as := [.int (xs (l4 + (1 : Int32)).toNatClampNeg)]) G dL_law_1165 kL_122 (wd_at hx.1) ⟨by decide, rfl⟩ (s_X8_rest hx G hc (by omega)) rfl (Nat.le_of_ble_eq_true rfl) (fun _ _ _ q => q.elim) ?_
  rintro _ _ ⟨rfl, rfl⟩
  refine V_aload_n dL_law_1168 rfl ?_
  refine V_aload_n dL_law_1169 rfl ?_
  refine V_iload dL_law_1170 rfl ?_
  refine V_iconst (v := 1) dL_law_1172 (by decide) ?_
  refine V_iadd dL_law_1173 ?_
  obtain ⟨hz, hF⟩ := gv_out hF
  refine V_sald dL_law_1174 hX hz ?_
  obtain ⟨y2, hc, hF⟩ := bd hF
  refine V_callV0 (as := [.int (xs (l4 + (1 : Int32)).toNatClampNeg)]) G dL_law_1175 kL_125 (wd_at hm.1) ⟨by decide, rfl⟩ (s_X12_rest hm G hc (by omega)) rfl (Nat.le_of_ble_eq_true rfl) (fun _ _ _ q => q.elim) ?_
  rintro _ _ ⟨rfl, rfl⟩
  refine V_icmp_eq (tgt := 1234) dL_law_1178 (by decide) (fun c => ?_) (fun c => ?_)
  · replace hF := (if_pos c).symm.trans hF
    exact V_less (by omega) (by omega) (V_lv' (w_L_law_L1234 G2 hX hd hk23 _ _ _ hx hm ho hF) (v_all_c rfl (v_all_c rfl (v_all_c rfl (v_all_c rfl (v_all_c rfl v_all_n))))))
  · replace hF := (if_neg c).symm.trans hF
    refine V_iconst (v := 0) dL_law_1181 (by decide) ?_
    cases hF
    exact V_ireturn dL_law_1182 rfl (by decide) rfl
set_option maxRecDepth 100000 in
set_option maxHeartbeats 4000000 in
theorem w_L_law_L1183 {l : Launch} {s0 : State} {D : va_G} {a0 : Array Value} {f : Nat} {xs : Nat → Int32} {Ln b : Nat} {r : Int32} {d : Nat} (G2 : GC2 l s0 D a0) (hX : va_X b Ln xs s0 s0.heap) (hd : 31 ≤ d + 1) {mc ms : Nat} {k23 : List Sh → St → Int32 → Option Int32} (hk23 : ∀ (sh : List Sh) (S : St) (l4 : Int32), isX8 sh 0 → isX12 sh 94 → sh[158]? = some (.inl (.long, 1)) → k23 sh S l4 = some r → V l s0 D (d + 1) (mc) (ms) mL_law (fun v _ => v = some (.int r)) v_noX 23 [(0, .ref b), (1, .ref (s0.heap.size + 0)), (2, .ref (s0.heap.size + 94)), (3, .ref (s0.heap.size + 158)), (4, .int l4)] [] (wd s0.heap.size sh S)) : ∀ (sh : List Sh) (S : St) (l4 : Int32), isX8 sh 0 → isX12 sh 94 → sh[158]? = some (.inl (.long, 1)) → F_L_law_L1183 f xs Ln k23 sh S l4 = some r → V l s0 D (d + 1) (mc + 11) (ms + 88) mL_law (fun v _ => v = some (.int r)) v_noX 1183 [(0, .ref b), (1, .ref (s0.heap.size + 0)), (2, .ref (s0.heap.size + 94)), (3, .ref (s0.heap.size + 158)), (4, .int l4)] [] (wd s0.heap.size sh S) := by
  have G := G2.1
  intro sh S l4 hx hm ho hF
  unfold F_L_law_L1183 at hF
  refine V_aload_n dL_law_1183 rfl ?_
  obtain ⟨y1, hc, hF⟩ := bd hF
  refine V_callV0 (as := []) G dL_law_1184 kL_126 (wd_at hx.1) ⟨by decide, rfl⟩ (s_X8_pole hx G hc (by omega)) rfl (Nat.le_of_ble_eq_true rfl) (fun _ _ _ q => q.elim) ?_
  rintro _ _ ⟨rfl, rfl⟩
  refine V_aload_n dL_law_1187 rfl ?_
  obtain ⟨y2, hc, hF⟩ := bd hF
  refine V_callV0 (as := []) G dL_law_1188 kL_129 (wd_at hm.1) ⟨by decide, rfl⟩ (s_X12_pole hm G hc (by omega)) rfl (Nat.le_of_ble_eq_true rfl) (fun _ _ _ q => q.elim) ?_
  rintro _ _ ⟨rfl, rfl⟩
  refine V_icmp_eq (tgt := 1234) dL_law_1191 (by decide) (fun c => ?_) (fun c => ?_)
  · replace hF := (if_pos c).symm.trans hF
    exact V_less (by omega) (by omega) (V_lv' (w_L_law_L1234 G2 hX hd hk23 _ _ _ hx hm ho hF) (v_all_c rfl (v_all_c rfl (v_all_c rfl (v_all_c rfl (v_all_c rfl v_all_n))))))
  · replace hF := (if_neg c).symm.trans hF
    refine V_iconst (v := 0) dL_law_1194 (by decide) ?_
    cases hF
    exact V_ireturn dL_law_1195 rfl (by decide) rfl
set_option maxRecDepth 100000 in
set_option maxHeartbeats 4000000 in
theorem w_L_law_L1196 {l : Launch} {s0 : State} {D : va_G} {a0 : Array Value} {f : Nat} {xs : Nat → Int32} {Ln b : Nat} {r : Int32} {d : Nat} (G2 : GC2 l s0 D a0) (hX : va_X b Ln xs s0 s0.heap) (hd : 31 ≤ d + 1) {mc ms : Nat} {k23 : List Sh → St → Int32 → Option Int32} (hk23 : ∀ (sh : List Sh) (S : St) (l4 : Int32), isX8 sh 0 → isX12 sh 94 → sh[158]? = some (.inl (.long, 1)) → k23 sh S l4 = some r → V l s0 D (d + 1) (mc) (ms) mL_law (fun v _ => v = some (.int r)) v_noX 23 [(0, .ref b), (1, .ref (s0.heap.size + 0)), (2, .ref (s0.heap.size + 94)), (3, .ref (s0.heap.size + 158)), (4, .int l4)] [] (wd s0.heap.size sh S)) : ∀ (sh : List Sh) (S : St) (l4 : Int32), isX8 sh 0 → isX12 sh 94 → sh[158]? = some (.inl (.long, 1)) → F_L_law_L1196 f xs Ln k23 sh S l4 = some r → V l s0 D (d + 1) (mc + 11) (ms + 88) mL_law (fun v _ => v = some (.int r)) v_noX 1196 [(0, .ref b), (1, .ref (s0.heap.size + 0)), (2, .ref (s0.heap.size + 94)), (3, .ref (s0.heap.size + 158)), (4, .int l4)] [] (wd s0.heap.size sh S) := by
  have G := G2.1
  intro sh S l4 hx hm ho hF
  unfold F_L_law_L1196 at hF
  refine V_aload_n dL_law_1196 rfl ?_
  refine V_aload_n dL_law_1197 rfl ?_
  refine V_iload dL_law_1198 rfl ?_
  refine V_iconst (v := 1) dL_law_1200 (by decide) ?_
  refine V_iadd dL_law_1201 ?_
  obtain ⟨hz, hF⟩ := gv_out hF
  refine V_sald dL_law_1202 hX hz ?_
  obtain ⟨y1, hc, hF⟩ := bd hF
  refine V_callV0 (as := [.int (xs (l4 + (1 : Int32)).toNatClampNeg)]) G dL_law_1203 kL_130 (wd_at hx.1) ⟨by decide, rfl⟩ (s_X8_count hx G hc (by omega)) rfl (Nat.le_of_ble_eq_true rfl) (fun _ _ _ q => q.elim) ?_
  rintro _ _ ⟨rfl, rfl⟩
  refine V_aload_n dL_law_1206 rfl ?_
  refine V_aload_n dL_law_1207 rfl ?_
  refine V_iload dL_law_1208 rfl ?_
  refine V_iconst (v := 1) dL_law_1210 (by decide) ?_
  refine V_iadd dL_law_1211 ?_
  obtain ⟨hz, hF⟩ := gv_out hF
  refine V_sald dL_law_1212 hX hz ?_
  obtain ⟨y2, hc, hF⟩ := bd hF
  refine V_callV0 (as := [.int (xs (l4 + (1 : Int32)).toNatClampNeg)]) G dL_law_1213 kL_133 (wd_at hm.1) ⟨by decide, rfl⟩ (s_X12_count hm G hc (by omega)) rfl (Nat.le_of_ble_eq_true rfl) (fun _ _ _ q => q.elim) ?_
  rintro _ _ ⟨rfl, rfl⟩
  refine V_icmp_eq (tgt := 1234) dL_law_1216 (by decide) (fun c => ?_) (fun c => ?_)
  · replace hF := (if_pos c).symm.trans hF
    exact V_less (by omega) (by omega) (V_lv' (w_L_law_L1234 G2 hX hd hk23 _ _ _ hx hm ho hF) (v_all_c rfl (v_all_c rfl (v_all_c rfl (v_all_c rfl (v_all_c rfl v_all_n))))))
  · replace hF := (if_neg c).symm.trans hF
    refine V_iconst (v := 0) dL_law_1219 (by decide) ?_
    cases hF
    exact V_ireturn dL_law_1220 rfl (by decide) rfl
set_option maxRecDepth 100000 in
set_option maxHeartbeats 4000000 in
theorem w_L_law_L1221 {l : Launch} {s0 : State} {D : va_G} {a0 : Array Value} {f : Nat} {xs : Nat → Int32} {Ln b : Nat} {r : Int32} {d : Nat} (G2 : GC2 l s0 D a0) (hX : va_X b Ln xs s0 s0.heap) (hd : 31 ≤ d + 1) {mc ms : Nat} {k23 : List Sh → St → Int32 → Option Int32} (hk23 : ∀ (sh : List Sh) (S : St) (l4 : Int32), isX8 sh 0 → isX12 sh 94 → sh[158]? = some (.inl (.long, 1)) → k23 sh S l4 = some r → V l s0 D (d + 1) (mc) (ms) mL_law (fun v _ => v = some (.int r)) v_noX 23 [(0, .ref b), (1, .ref (s0.heap.size + 0)), (2, .ref (s0.heap.size + 94)), (3, .ref (s0.heap.size + 158)), (4, .int l4)] [] (wd s0.heap.size sh S)) : ∀ (sh : List Sh) (S : St) (l4 : Int32), isX8 sh 0 → isX12 sh 94 → sh[158]? = some (.inl (.long, 1)) → F_L_law_L1221 f xs Ln k23 sh S l4 = some r → V l s0 D (d + 1) (mc + 11) (ms + 88) mL_law (fun v _ => v = some (.int r)) v_noX 1221 [(0, .ref b), (1, .ref (s0.heap.size + 0)), (2, .ref (s0.heap.size + 94)), (3, .ref (s0.heap.size + 158)), (4, .int l4)] [] (wd s0.heap.size sh S) := by
  have G := G2.1
  intro sh S l4 hx hm ho hF
  unfold F_L_law_L1221 at hF
  refine V_aload_n dL_law_1221 rfl ?_
  obtain ⟨y1, hc, hF⟩ := bd hF
  refine V_callV0 (as := []) G dL_law_1222 kL_134 (wd_at hx.1) ⟨by decide, rfl⟩ (s_X8_trouble hx G hc (by omega)) rfl (Nat.le_of_ble_eq_true rfl) (fun _ _ _ q => q.elim) ?_
  rintro _ _ ⟨rfl, rfl⟩
  refine V_aload_n dL_law_1225 rfl ?_
  obtain ⟨y2, hc, hF⟩ := bd hF
  refine V_callV0 (as := []) G dL_law_1226 kL_137 (wd_at hm.1) ⟨by decide, rfl⟩ (s_X12_trouble hm G hc (by omega)) rfl (Nat.le_of_ble_eq_true rfl) (fun _ _ _ q => q.elim) ?_
  rintro _ _ ⟨rfl, rfl⟩
  refine V_icmp_eq (tgt := 1234) dL_law_1229 (by decide) (fun c => ?_) (fun c => ?_)
  · replace hF := (if_pos c).symm.trans hF
    exact V_less (by omega) (by omega) (V_lv' (w_L_law_L1234 G2 hX hd hk23 _ _ _ hx hm ho hF) (v_all_c rfl (v_all_c rfl (v_all_c rfl (v_all_c rfl (v_all_c rfl v_all_n))))))
  · replace hF := (if_neg c).symm.trans hF
    refine V_iconst (v := 0) dL_law_1232 (by decide) ?_
    cases hF
    exact V_ireturn dL_law_1233 rfl (by decide) rfl
set_option maxRecDepth 100000 in
set_option maxHeartbeats 4000000 in
theorem w_L_law_L23 {l : Launch} {s0 : State} {D : va_G} {a0 : Array Value} {f : Nat} {xs : Nat → Int32} {Ln b : Nat} {r : Int32} {d : Nat} (G2 : GC2 l s0 D a0) (hX : va_X b Ln xs s0 s0.heap) (hd : 31 ≤ d + 1) : ∀ (n : Nat) (sh : List Sh) (S : St) (l4 : Int32), isX8 sh 0 → isX12 sh 94 → sh[158]? = some (.inl (.long, 1)) → F_L_law_L23 f xs Ln n sh S l4 = some r → V l s0 D (d + 1) (11 * n) (88 * n) mL_law (fun v _ => v = some (.int r)) v_noX 23 [(0, .ref b), (1, .ref (s0.heap.size + 0)), (2, .ref (s0.heap.size + 94)), (3, .ref (s0.heap.size + 158)), (4, .int l4)] [] (wd s0.heap.size sh S) := by
  have G := G2.1
  intro n
  induction n with
  | zero => intro sh S l4 hx hm ho hF; cases hF
  | succ n ih =>
    intro sh S l4 hx hm ho hF
    unfold F_L_law_L23 at hF
    refine V_iload dL_law_23 rfl ?_
    refine V_aload_n dL_law_25 rfl ?_
    refine V_slen dL_law_26 hX ?_
    refine V_bipush (v := 8) dL_law_27 (by decide) ?_
    refine V_isub dL_law_29 ?_
    refine V_icmp_gt (tgt := 1240) dL_law_30 (by decide) (fun c => ?_) (fun c => ?_)
    · replace hF := (if_pos c).symm.trans hF
      refine V_iconst (v := 1) dL_law_1240 (by decide) ?_
      cases hF
      exact V_ireturn dL_law_1241 rfl (by decide) rfl
    · replace hF := (if_neg c).symm.trans hF
      refine V_aload_n dL_law_33 rfl ?_
      refine V_iload dL_law_34 rfl ?_
      obtain ⟨hz, hF⟩ := gv_out hF
      refine V_sald dL_law_36 hX hz ?_
      refine V_bipush (v := 31) dL_law_37 (by decide) ?_
      refine V_iand dL_law_39 ?_
      by_cases c0 : ((xs l4.toNatClampNeg) &&& (31 : Int32)) = (0 : Int32)
      · replace hF := (if_pos c0).symm.trans hF
        refine V_tableIn (off := 120) (tgt := 160) dL_law_40 (by rw [c0]; decide) (by rw [c0]; decide) (by rw [c0]; decide) (by decide) ?_
        exact V_less (by omega) (by omega) (V_lv' (w_L_law_L160 G2 hX hd ih _ _ _ hx hm ho hF) (v_all_c rfl (v_all_c rfl (v_all_c rfl (v_all_c rfl (v_all_c rfl v_all_n))))))
      replace hF := (if_neg c0).symm.trans hF
      by_cases c1 : ((xs l4.toNatClampNeg) &&& (31 : Int32)) = (1 : Int32)
      · replace hF := (if_pos c1).symm.trans hF
        refine V_tableIn (off := 193) (tgt := 233) dL_law_40 (by rw [c1]; decide) (by rw [c1]; decide) (by rw [c1]; decide) (by decide) ?_
        exact V_less (by omega) (by omega) (V_lv' (w_L_law_L233 G2 hX hd ih _ _ _ hx hm ho hF) (v_all_c rfl (v_all_c rfl (v_all_c rfl (v_all_c rfl (v_all_c rfl v_all_n))))))
      replace hF := (if_neg c1).symm.trans hF
      by_cases c2 : ((xs l4.toNatClampNeg) &&& (31 : Int32)) = (2 : Int32)
      · replace hF := (if_pos c2).symm.trans hF
        refine V_tableIn (off := 218) (tgt := 258) dL_law_40 (by rw [c2]; decide) (by rw [c2]; decide) (by rw [c2]; decide) (by decide) ?_
        exact V_less (by omega) (by omega) (V_lv' (w_L_law_L258 G2 hX hd ih _ _ _ hx hm ho hF) (v_all_c rfl (v_all_c rfl (v_all_c rfl (v_all_c rfl (v_all_c rfl v_all_n))))))
      replace hF := (if_neg c2).symm.trans hF
      by_cases c3 : ((xs l4.toNatClampNeg) &&& (31 : Int32)) = (3 : Int32)
      · replace hF := (if_pos c3).symm.trans hF
        refine V_tableIn (off := 231) (tgt := 271) dL_law_40 (by rw [c3]; decide) (by rw [c3]; decide) (by rw [c3]; decide) (by decide) ?_
        exact V_less (by omega) (by omega) (V_lv' (w_L_law_L271 G2 hX hd ih _ _ _ hx hm ho hF) (v_all_c rfl (v_all_c rfl (v_all_c rfl (v_all_c rfl (v_all_c rfl v_all_n))))))
      replace hF := (if_neg c3).symm.trans hF
      by_cases c4 : ((xs l4.toNatClampNeg) &&& (31 : Int32)) = (4 : Int32)
      · replace hF := (if_pos c4).symm.trans hF
        refine V_tableIn (off := 244) (tgt := 284) dL_law_40 (by rw [c4]; decide) (by rw [c4]; decide) (by rw [c4]; decide) (by decide) ?_
        exact V_less (by omega) (by omega) (V_lv' (w_L_law_L284 G2 hX hd ih _ _ _ hx hm ho hF) (v_all_c rfl (v_all_c rfl (v_all_c rfl (v_all_c rfl (v_all_c rfl v_all_n))))))
      replace hF := (if_neg c4).symm.trans hF
      by_cases c5 : ((xs l4.toNatClampNeg) &&& (31 : Int32)) = (5 : Int32)
      · replace hF := (if_pos c5).symm.trans hF
        refine V_tableIn (off := 281) (tgt := 321) dL_law_40 (by rw [c5]; decide) (by rw [c5]; decide) (by rw [c5]; decide) (by decide) ?_
        exact V_less (by omega) (by omega) (V_lv' (w_L_law_L321 G2 hX hd ih _ _ _ hx hm ho hF) (v_all_c rfl (v_all_c rfl (v_all_c rfl (v_all_c rfl (v_all_c rfl v_all_n))))))
      replace hF := (if_neg c5).symm.trans hF
      by_cases c6 : ((xs l4.toNatClampNeg) &&& (31 : Int32)) = (6 : Int32)
      · replace hF := (if_pos c6).symm.trans hF
        refine V_tableIn (off := 318) (tgt := 358) dL_law_40 (by rw [c6]; decide) (by rw [c6]; decide) (by rw [c6]; decide) (by decide) ?_
        exact V_less (by omega) (by omega) (V_lv' (w_L_law_L358 G2 hX hd ih _ _ _ hx hm ho hF) (v_all_c rfl (v_all_c rfl (v_all_c rfl (v_all_c rfl (v_all_c rfl v_all_n))))))
      replace hF := (if_neg c6).symm.trans hF
      by_cases c7 : ((xs l4.toNatClampNeg) &&& (31 : Int32)) = (7 : Int32)
      · replace hF := (if_pos c7).symm.trans hF
        refine V_tableIn (off := 405) (tgt := 445) dL_law_40 (by rw [c7]; decide) (by rw [c7]; decide) (by rw [c7]; decide) (by decide) ?_
        exact V_less (by omega) (by omega) (V_lv' (w_L_law_L445 G2 hX hd ih _ _ _ hx hm ho hF) (v_all_c rfl (v_all_c rfl (v_all_c rfl (v_all_c rfl (v_all_c rfl v_all_n))))))
      replace hF := (if_neg c7).symm.trans hF
      by_cases c8 : ((xs l4.toNatClampNeg) &&& (31 : Int32)) = (8 : Int32)
      · replace hF := (if_pos c8).symm.trans hF
        refine V_tableIn (off := 430) (tgt := 470) dL_law_40 (by rw [c8]; decide) (by rw [c8]; decide) (by rw [c8]; decide) (by decide) ?_
        exact V_less (by omega) (by omega) (V_lv' (w_L_law_L470 G2 hX hd ih _ _ _ hx hm ho hF) (v_all_c rfl (v_all_c rfl (v_all_c rfl (v_all_c rfl (v_all_c rfl v_all_n))))))
      replace hF := (if_neg c8).symm.trans hF
      by_cases c9 : ((xs l4.toNatClampNeg) &&& (31 : Int32)) = (9 : Int32)
      · replace hF := (if_pos c9).symm.trans hF
        refine V_tableIn (off := 467) (tgt := 507) dL_law_40 (by rw [c9]; decide) (by rw [c9]; decide) (by rw [c9]; decide) (by decide) ?_
        exact V_less (by omega) (by omega) (V_lv' (w_L_law_L507 G2 hX hd ih _ _ _ hx hm ho hF) (v_all_c rfl (v_all_c rfl (v_all_c rfl (v_all_c rfl (v_all_c rfl v_all_n))))))
      replace hF := (if_neg c9).symm.trans hF
      by_cases c10 : ((xs l4.toNatClampNeg) &&& (31 : Int32)) = (10 : Int32)
      · replace hF := (if_pos c10).symm.trans hF
        refine V_tableIn (off := 504) (tgt := 544) dL_law_40 (by rw [c10]; decide) (by rw [c10]; decide) (by rw [c10]; decide) (by decide) ?_
        exact V_less (by omega) (by omega) (V_lv' (w_L_law_L544 G2 hX hd ih _ _ _ hx hm ho hF) (v_all_c rfl (v_all_c rfl (v_all_c rfl (v_all_c rfl (v_all_c rfl v_all_n))))))
      replace hF := (if_neg c10).symm.trans hF
      by_cases c11 : ((xs l4.toNatClampNeg) &&& (31 : Int32)) = (11 : Int32)
      · replace hF := (if_pos c11).symm.trans hF
        refine V_tableIn (off := 541) (tgt := 581) dL_law_40 (by rw [c11]; decide) (by rw [c11]; decide) (by rw [c11]; decide) (by decide) ?_
        exact V_less (by omega) (by omega) (V_lv' (w_L_law_L581 G2 hX hd ih _ _ _ hx hm ho hF) (v_all_c rfl (v_all_c rfl (v_all_c rfl (v_all_c rfl (v_all_c rfl v_all_n))))))
      replace hF := (if_neg c11).symm.trans hF
      by_cases c12 : ((xs l4.toNatClampNeg) &&& (31 : Int32)) = (12 : Int32)
      · replace hF := (if_pos c12).symm.trans hF
        refine V_tableIn (off := 609) (tgt := 649) dL_law_40 (by rw [c12]; decide) (by rw [c12]; decide) (by rw [c12]; decide) (by decide) ?_
        exact V_less (by omega) (by omega) (V_lv' (w_L_law_L649 G2 hX hd ih _ _ _ hx hm ho hF) (v_all_c rfl (v_all_c rfl (v_all_c rfl (v_all_c rfl (v_all_c rfl v_all_n))))))
      replace hF := (if_neg c12).symm.trans hF
      by_cases c13 : ((xs l4.toNatClampNeg) &&& (31 : Int32)) = (13 : Int32)
      · replace hF := (if_pos c13).symm.trans hF
        refine V_tableIn (off := 622) (tgt := 662) dL_law_40 (by rw [c13]; decide) (by rw [c13]; decide) (by rw [c13]; decide) (by decide) ?_
        exact V_less (by omega) (by omega) (V_lv' (w_L_law_L662 G2 hX hd ih _ _ _ hx hm ho hF) (v_all_c rfl (v_all_c rfl (v_all_c rfl (v_all_c rfl (v_all_c rfl v_all_n))))))
      replace hF := (if_neg c13).symm.trans hF
      by_cases c14 : ((xs l4.toNatClampNeg) &&& (31 : Int32)) = (14 : Int32)
      · replace hF := (if_pos c14).symm.trans hF
        refine V_tableIn (off := 723) (tgt := 763) dL_law_40 (by rw [c14]; decide) (by rw [c14]; decide) (by rw [c14]; decide) (by decide) ?_
        exact V_less (by omega) (by omega) (V_lv' (w_L_law_L763 G2 hX hd ih _ _ _ hx hm ho hF) (v_all_c rfl (v_all_c rfl (v_all_c rfl (v_all_c rfl (v_all_c rfl v_all_n))))))
      replace hF := (if_neg c14).symm.trans hF
      by_cases c15 : ((xs l4.toNatClampNeg) &&& (31 : Int32)) = (15 : Int32)
      · replace hF := (if_pos c15).symm.trans hF
        refine V_tableIn (off := 801) (tgt := 841) dL_law_40 (by rw [c15]; decide) (by rw [c15]; decide) (by rw [c15]; decide) (by decide) ?_
        exact V_less (by omega) (by omega) (V_lv' (w_L_law_L841 G2 hX hd ih _ _ _ hx hm ho hF) (v_all_c rfl (v_all_c rfl (v_all_c rfl (v_all_c rfl (v_all_c rfl v_all_n))))))
      replace hF := (if_neg c15).symm.trans hF
      by_cases c16 : ((xs l4.toNatClampNeg) &&& (31 : Int32)) = (16 : Int32)
      · replace hF := (if_pos c16).symm.trans hF
        refine V_tableIn (off := 879) (tgt := 919) dL_law_40 (by rw [c16]; decide) (by rw [c16]; decide) (by rw [c16]; decide) (by decide) ?_
        exact V_less (by omega) (by omega) (V_lv' (w_L_law_L919 G2 hX hd ih _ _ _ hx hm ho hF) (v_all_c rfl (v_all_c rfl (v_all_c rfl (v_all_c rfl (v_all_c rfl v_all_n))))))
      replace hF := (if_neg c16).symm.trans hF
      by_cases c17 : ((xs l4.toNatClampNeg) &&& (31 : Int32)) = (17 : Int32)
      · replace hF := (if_pos c17).symm.trans hF
        refine V_tableIn (off := 916) (tgt := 956) dL_law_40 (by rw [c17]; decide) (by rw [c17]; decide) (by rw [c17]; decide) (by decide) ?_
        exact V_less (by omega) (by omega) (V_lv' (w_L_law_L956 G2 hX hd ih _ _ _ hx hm ho hF) (v_all_c rfl (v_all_c rfl (v_all_c rfl (v_all_c rfl (v_all_c rfl v_all_n))))))
      replace hF := (if_neg c17).symm.trans hF
      by_cases c18 : ((xs l4.toNatClampNeg) &&& (31 : Int32)) = (18 : Int32)
      · replace hF := (if_pos c18).symm.trans hF
        refine V_tableIn (off := 953) (tgt := 993) dL_law_40 (by rw [c18]; decide) (by rw [c18]; decide) (by rw [c18]; decide) (by decide) ?_
        exact V_less (by omega) (by omega) (V_lv' (w_L_law_L993 G2 hX hd ih _ _ _ hx hm ho hF) (v_all_c rfl (v_all_c rfl (v_all_c rfl (v_all_c rfl (v_all_c rfl v_all_n))))))
      replace hF := (if_neg c18).symm.trans hF
      by_cases c19 : ((xs l4.toNatClampNeg) &&& (31 : Int32)) = (19 : Int32)
      · replace hF := (if_pos c19).symm.trans hF
        refine V_tableIn (off := 978) (tgt := 1018) dL_law_40 (by rw [c19]; decide) (by rw [c19]; decide) (by rw [c19]; decide) (by decide) ?_
        exact V_less (by omega) (by omega) (V_lv' (w_L_law_L1018 G2 hX hd ih _ _ _ hx hm ho hF) (v_all_c rfl (v_all_c rfl (v_all_c rfl (v_all_c rfl (v_all_c rfl v_all_n))))))
      replace hF := (if_neg c19).symm.trans hF
      by_cases c20 : ((xs l4.toNatClampNeg) &&& (31 : Int32)) = (20 : Int32)
      · replace hF := (if_pos c20).symm.trans hF
        refine V_tableIn (off := 1027) (tgt := 1067) dL_law_40 (by rw [c20]; decide) (by rw [c20]; decide) (by rw [c20]; decide) (by decide) ?_
        exact V_less (by omega) (by omega) (V_lv' (w_L_law_L1067 G2 hX hd ih _ _ _ hx hm ho hF) (v_all_c rfl (v_all_c rfl (v_all_c rfl (v_all_c rfl (v_all_c rfl v_all_n))))))
      replace hF := (if_neg c20).symm.trans hF
      by_cases c21 : ((xs l4.toNatClampNeg) &&& (31 : Int32)) = (21 : Int32)
      · replace hF := (if_pos c21).symm.trans hF
        refine V_tableIn (off := 1076) (tgt := 1116) dL_law_40 (by rw [c21]; decide) (by rw [c21]; decide) (by rw [c21]; decide) (by decide) ?_
        exact V_less (by omega) (by omega) (V_lv' (w_L_law_L1116 G2 hX hd ih _ _ _ hx hm ho hF) (v_all_c rfl (v_all_c rfl (v_all_c rfl (v_all_c rfl (v_all_c rfl v_all_n))))))
      replace hF := (if_neg c21).symm.trans hF
      by_cases c22 : ((xs l4.toNatClampNeg) &&& (31 : Int32)) = (22 : Int32)
      · replace hF := (if_pos c22).symm.trans hF
        refine V_tableIn (off := 1118) (tgt := 1158) dL_law_40 (by rw [c22]; decide) (by rw [c22]; decide) (by rw [c22]; decide) (by decide) ?_
        exact V_less (by omega) (by omega) (V_lv' (w_L_law_L1158 G2 hX hd ih _ _ _ hx hm ho hF) (v_all_c rfl (v_all_c rfl (v_all_c rfl (v_all_c rfl (v_all_c rfl v_all_n))))))
      replace hF := (if_neg c22).symm.trans hF
      by_cases c23 : ((xs l4.toNatClampNeg) &&& (31 : Int32)) = (23 : Int32)
      · replace hF := (if_pos c23).symm.trans hF
        refine V_tableIn (off := 1143) (tgt := 1183) dL_law_40 (by rw [c23]; decide) (by rw [c23]; decide) (by rw [c23]; decide) (by decide) ?_
        exact V_less (by omega) (by omega) (V_lv' (w_L_law_L1183 G2 hX hd ih _ _ _ hx hm ho hF) (v_all_c rfl (v_all_c rfl (v_all_c rfl (v_all_c rfl (v_all_c rfl v_all_n))))))
      replace hF := (if_neg c23).symm.trans hF
      by_cases c24 : ((xs l4.toNatClampNeg) &&& (31 : Int32)) = (24 : Int32)
      · replace hF := (if_pos c24).symm.trans hF
        refine V_tableIn (off := 1156) (tgt := 1196) dL_law_40 (by rw [c24]; decide) (by rw [c24]; decide) (by rw [c24]; decide) (by decide) ?_
        exact V_less (by omega) (by omega) (V_lv' (w_L_law_L1196 G2 hX hd ih _ _ _ hx hm ho hF) (v_all_c rfl (v_all_c rfl (v_all_c rfl (v_all_c rfl (v_all_c rfl v_all_n))))))
      replace hF := (if_neg c24).symm.trans hF
      by_cases c25 : ((xs l4.toNatClampNeg) &&& (31 : Int32)) = (25 : Int32)
      · replace hF := (if_pos c25).symm.trans hF
        refine V_tableIn (off := 1181) (tgt := 1221) dL_law_40 (by rw [c25]; decide) (by rw [c25]; decide) (by rw [c25]; decide) (by decide) ?_
        exact V_less (by omega) (by omega) (V_lv' (w_L_law_L1221 G2 hX hd ih _ _ _ hx hm ho hF) (v_all_c rfl (v_all_c rfl (v_all_c rfl (v_all_c rfl (v_all_c rfl v_all_n))))))
      replace hF := (if_neg c25).symm.trans hF
      refine V_tableOut (tgt := 1234) dL_law_40 (by have e0 := ts_ne c0 (n := 0) (by decide); have e1 := ts_ne c1 (n := 1) (by decide); have e2 := ts_ne c2 (n := 2) (by decide); have e3 := ts_ne c3 (n := 3) (by decide); have e4 := ts_ne c4 (n := 4) (by decide); have e5 := ts_ne c5 (n := 5) (by decide); have e6 := ts_ne c6 (n := 6) (by decide); have e7 := ts_ne c7 (n := 7) (by decide); have e8 := ts_ne c8 (n := 8) (by decide); have e9 := ts_ne c9 (n := 9) (by decide); have e10 := ts_ne c10 (n := 10) (by decide); have e11 := ts_ne c11 (n := 11) (by decide); have e12 := ts_ne c12 (n := 12) (by decide); have e13 := ts_ne c13 (n := 13) (by decide); have e14 := ts_ne c14 (n := 14) (by decide); have e15 := ts_ne c15 (n := 15) (by decide); have e16 := ts_ne c16 (n := 16) (by decide); have e17 := ts_ne c17 (n := 17) (by decide); have e18 := ts_ne c18 (n := 18) (by decide); have e19 := ts_ne c19 (n := 19) (by decide); have e20 := ts_ne c20 (n := 20) (by decide); have e21 := ts_ne c21 (n := 21) (by decide); have e22 := ts_ne c22 (n := 22) (by decide); have e23 := ts_ne c23 (n := 23) (by decide); have e24 := ts_ne c24 (n := 24) (by decide); have e25 := ts_ne c25 (n := 25) (by decide); omega) (by decide) ?_
      exact V_less (by omega) (by omega) (V_lv' (w_L_law_L1234 G2 hX hd ih _ _ _ hx hm ho hF) (v_all_c rfl (v_all_c rfl (v_all_c rfl (v_all_c rfl (v_all_c rfl v_all_n))))))

