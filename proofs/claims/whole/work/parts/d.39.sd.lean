/-! 'side': the class's own throw of NoSuchElementException, and the law's catch of it -/
theorem v_castB {E T : String} {a : Array Value} {s0 s : State} (hA : s0.vm.Alike s.vm) (h : v_cast s0 E T) : (Cond.castable E T).before a s = true := by
  obtain ⟨c, t, h1, h2, h3⟩ := h
  rw [← hA.findClass] at h1 h2
  rw [← hA.assignable] at h3
  simp [Cond.before, Cond.holds, Cond.value, h1, h2, h3]
theorem v_declB {x : MethodName} {a0 a : Array Value} {s0 s : State} (hA : s0.vm.Alike s.vm) (h : (Cond.declares x).before a0 s0 = true) : (Cond.declares x).before a s = true := by
  have e1 : s.methodNamed? x = s0.methodNamed? x := State.methodNamed?_setVm hA x
  have e2 : s.vm.method? = s0.vm.method? := by rw [← Vm.method?_bare s.vm, ← Vm.method?_bare s0.vm, hA.bare_eq]
  simp only [Cond.before, Cond.holds, Cond.value] at h ⊢
  rw [e1, e2]
  exact h
theorem v_throw0 {p : Program} {l : Launch} {e : Env} {R : Room} {s : State} {m : MethodId} {args : Array Value} {below : List Frame} {meth : Method} {c : Code} {H : Heap} {locs : List Loc} {cells slots : Nat} {ls : Array Slot} {rest : List Value} {cc : ByteArray} {pc : Nat} (hexec : p.tables.exec = Jvm.exec) (hb : c.code = cc) (hl : l.stackTraces = false) {own cls : String} {names : List String} {ik ic mc ms : Nat} {A : Nat → Prop} {Qc : Array Value → State → Outcome → State → Prop} {XC : Addr → String → State → State → Prop} {free : Addr → Prop}
    (hown : s.vm.findClass own = some m.cls) (hcls : Bundle.fit cls = true) (hnames : ∀ n ∈ names, Bundle.fit n = true)
    (hk : (Cond.classLink own ik cls).before args s = true) (hini : (Cond.initialized cls).before args s = true) (hat : ∀ w ∈ vx_at0 own ic cls names, w.before args s = true)
    (hgood : ∀ w ∈ Cond.classLink own ik cls :: Cond.initialized cls :: vx_at0 own ic cls names, vx_ot w = true)
    (hU : vx_Zq Bundle.tN "UNASSIGNED_STACK" Bundle.steD A s H) (hN : vx_Zq Bundle.tN "SUPPRESSED_SENTINEL" Bundle.listD A s H)  (hsize : ls.size = c.maxLocals)
    (d0 : decode cc pc = .ok (.new ik, 3)) (d3 : decode cc (pc + 3) = .ok (.dup, 1)) (d4 : decode cc (pc + 4) = .ok (.invokespecial ic, 3)) (d7 : decode cc (pc + 7) = .ok (.athrow, 1))
    (hout : ∀ x ∈ c.exceptionTable.toList, covers x (pc + 7) = false)
    (hRframes : names.length + 3 < R.frames) (hRlocals : (rest.map fun v => v.category).sum + (13 * (names.length + 1) + 42) ≤ R.locals) (hRcells : cells + 1 ≤ R.cells) (hRslots : slots + 6 ≤ R.slots) (hlocks : meth.locks = false)
    (hx : ∀ t : State, t.heap.size = H.size + 1 → (∀ q : Nat, q < H.size → t.heap[q]? = H[q]?) → XC H.size cls s t)
    (hf : ∀ z ∈ locs, free z.base) (hc : cells + 1 ≤ mc) (hs : slots + 6 ≤ ms) :
    W p l e R s m args below meth c H locs cells slots (vx_MQ below Qc XC args s mc ms free) (F0 m pc ls rest) := by
  intro T hT X
  have htr : e.platform.stackTraces = false := (show e.platform.stackTraces = l.stackTraces by rw [X.admits.platform]).trans hl
  have Y := vx_rebase X (R' := { frames := R.frames, locals := R.locals, cells := 1, slots := 6 }) (Nat.le_refl _) (Nat.le_refl _) hRcells hRslots
  obtain ⟨s', hA⟩ : ∃ z, z = (T.setVm s.vm).setFrames (.invoking m args :: below) := ⟨_, rfl⟩
  rw [← hA] at Y
  have hvm : s'.vm = s.vm := by rw [hA]; rfl
  have hhp : s'.heap = H := by rw [hA]; exact hT
  have hW0 : s.WarmedH s'.vm := by rw [hvm]; exact State.WarmedH.refl s
  have hat' : ∀ w ∈ vx_at0 own ic cls names, w.before args s' = true := fun w hw => vx_ot_at hW0 hvm.symm (hgood w (List.mem_cons_of_mem _ (List.mem_cons_of_mem _ hw))) (hat w hw)
  have hk' : (Cond.classLink own ik cls).before args s' = true := vx_ot_at hW0 hvm.symm (hgood _ List.mem_cons_self) hk
  have hini' : (Cond.initialized cls).before args s' = true := vx_ot_at hW0 hvm.symm (hgood _ (List.mem_cons_of_mem _ List.mem_cons_self)) hini
  have hU' : vx_Zq Bundle.tN "UNASSIGNED_STACK" Bundle.steD A s' s'.heap := by rw [hhp]; exact vx_Zq.moved hW0.alike hU
  have hN' : vx_Zq Bundle.tN "SUPPRESSED_SENTINEL" Bundle.listD A s' s'.heap := by rw [hhp]; exact vx_Zq.moved hW0.alike hN
  have h : ∀ w ∈ Bundle.ownAtoms0 own ic cls names, w.before args s' = true := vx_own hat' (vx_isRefq hU'.1) (vx_isRefq hN'.1) hU'.2.word hN'.2.word
  have hown' : s'.vm.findClass own = some m.cls := by rw [hvm]; exact hown
  have hins : (Cond.instantiable cls 6).before args s' = true := h _ (by simp [Bundle.ownAtoms0])
  obtain ⟨vm₁, cX, kX, hfX, hkX, -, -, X₁, st1⟩ := Y.newCold hexec (own := own) (C := cls) (index := ik) (n := 6) hown' hk' hins hini'
    (g := F0 m pc ls rest) rfl (by rw [hb]; exact d0) (Nat.le_refl _) (Nat.le_refl _)
  generalize hT1 : (T.setVm vm₁).pushCell { cls := cX, slots := kX.instanceTypes.map defaultValue, vm := .none } = T1 at X₁ st1
  have hcat : (Value.ref T.heap.size).category = 1 := rfl
  have hcellA : T1.heap[T.heap.size]? = some (freshCell cX kX) := by rw [← hT1]; exact State.heap_pushCell_size _ _
  have d3' : decode c.code (pc + 3) = .ok (.dup, 1) := by rw [hb]; exact d3
  obtain ⟨U, hsteps, hrun, hend, hW, hsame, ce, hce, hO⟩ := X₁.ctorThrow0 hexec htr (own := own) (cls := cls) (names := names) (ic := ic) hown' hcls hnames h (fun x hx => nomatch hx) hfX hkX hcellA (by rw [hhp, hT]; exact Nat.le_refl _)
    (g := { method := m, pc := pc + 4, locals := ls, stack := .ref T.heap.size :: .ref T.heap.size :: rest, locked := none }) rfl hsize rfl rfl (rest := rest) rfl
    (by rw [hb]; exact d4) (by rw [hb]; exact d7) hout hRframes (by simp only [List.map_cons, List.sum_cons, hcat]; omega) hlocks
  obtain ⟨f1, f2⟩ := vx_frame hsame
  rw [hhp] at f1 f2
  have hWs : s.WarmedH U.vm := State.WarmedH.trans hW0 hW
  have hcl : s.vm.findClass cls = some ce.cls := by
    have h9 := hO.cls
    rw [hvm] at h9
    exact h9
  have hall : s.sameButNew ({ U with vm := s.vm } : State) locs mc ms := by
    subst hA
    obtain ⟨e1, e2⟩ := hsame
    rw [State.setFrames_setFrames] at e1
    have h2 : (T.setVm s.vm).sameButNew ({ U with vm := s.vm } : State) [] (0 + 1) (0 + 6) := ⟨e1, e2⟩
    have h3 := X.same.trans h2
    rw [List.append_nil] at h3
    exact h3.mono hc hs
  have hz : U.heap.size = H.size + 1 := by
    have z1 : T.heap.size < U.heap.size := (Array.getElem?_eq_some_iff.mp hce).1
    have z2 : U.heap.size ≤ s'.heap.size + (0 + 1) := hsame.2.2.1
    rw [hT] at z1
    rw [hhp] at z2
    omega
  refine ⟨U, ?_, .threw T.heap.size, hrun, hend, Or.inr ⟨T.heap.size, rfl, cls, ce, locs, (by rw [hT]; exact hx U hz (fun q hq => f2 q hq (fun z hz => nomatch hz))), hce, hO.vm, hcl, hWs, hall, hf⟩⟩
  refine st1 _ ?_
  show Steps p.tables e below (T1.setTop { method := m, pc := pc + 3, locals := ls, stack := .ref T.heap.size :: rest, locked := none }) _
  jvm_step X₁.here [X₁.here.top, hexec, d3', Value.category]
  exact hsteps
def nsee : String := "java/util/NoSuchElementException"
def nsL : List Cond := vx_at0 RX8 172 nsee ["java/lang/RuntimeException", "java/lang/Exception"]
theorem nsL_good : ∀ w ∈ nsL.filter goodWord, w ∈ gw := by
  have h : (nsL.filter goodWord) = ([12, 1142, 1151, 1154, 1157, 1159, 1143, 1144, 30, 31, 1145, 1150, 1155, 1172, 1132, 1173, 1134, 1174, 1136, 1146, 1148, 1138, 1161, 1162, 1163, 1164, 1164, 1165, 1166, 1167, 1167, 1168, 1169, 1143, 1160, 1121, 1129, 1130, 1131, 1133, 1135, 1137, 1141, 1140, 1139] : List Nat).filterMap (fun i => tables_1[i]?) := by decide +kernel
  intro w hw
  have hg : goodWord w = true := (List.mem_filter.mp hw).2
  rw [h] at hw
  obtain ⟨i, -, hi⟩ := List.mem_filterMap.mp hw
  exact gw_t i hi hg
theorem nsL_bad : nsL.filter (fun w => !goodWord w) = [.declares ⟨"java/lang/RuntimeException", "<init>", "()V"⟩, .declares ⟨"java/lang/Exception", "<init>", "()V"⟩, .declares ⟨"java/lang/Throwable", "<init>", "()V"⟩, .castable nsee nsee] := by decide +kernel
theorem nsL_ot : ∀ w ∈ Cond.classLink RX8 170 nsee :: Cond.initialized nsee :: nsL, vx_ot w = true := by decide +kernel
theorem nsL_at {l : Launch} {s0 s : State} {D : va_G} {a0 a : Array Value} (G2 : GC2 l s0 D a0) (hA : s0.vm.Alike s.vm) (hts : ∀ w ∈ gw, w.before a s = true) : ∀ w ∈ nsL, w.before a s = true := by
  have t : ∀ (i : Nat) (x : MethodName), tables_1[i]? = some (.declares x) → (Cond.declares x).before a s = true := fun i x h => v_declB hA (G2.1.2.1 _ (List.mem_append_right _ (List.mem_of_getElem? h)))
  refine vx_hat (B := [.declares ⟨"java/lang/RuntimeException", "<init>", "()V"⟩, .declares ⟨"java/lang/Exception", "<init>", "()V"⟩, .declares ⟨"java/lang/Throwable", "<init>", "()V"⟩, .castable nsee nsee]) (fun w hw => hts w (nsL_good w hw)) (fun w hw => by rw [nsL_bad] at hw; exact hw) ?_
  exact vx_c (t 1123 _ (by decide +kernel)) (vx_c (t 1125 _ (by decide +kernel)) (vx_c (t 1127 _ (by decide +kernel)) (vx_c (v_castB hA G2.2.2.2.2.2.2.2) vx_n)))
section PVS
variable {p : Program} {l : Launch} {e : Env} {R : Room} {s s0 : State} {m : MethodId} {args : Array Value} {below : List Frame} {meth : Method} {c : Code} {Q : State → Prop} {M M' : MI} {D : va_G} {a0 : Array Value} {d mc ms pc idx : Nat} {lv : List (Nat × Value)} {st stk as : List Value} {h : AH} {Post Post' : Option Value → AH → Prop} {PX : Nat → String → AH → Prop}
/-- as V, the run's frame held fast -/
def PV (p : Program) (l : Launch) (e : Env) (R : Room) (s s0 : State) (D : va_G) (m : MethodId) (args : Array Value) (below : List Frame) (meth : Method) (c : Code) (Q : State → Prop) (M : MI) (mc ms pc : Nat) (lv : List (Nat × Value)) (st : List Value) (h : AH) : Prop :=
  ∀ (H : Heap) (locs : List Loc) (cells slots : Nat) (ls : Array Slot), cells + mc ≤ R.cells → slots + ms ≤ R.slots → Wd s0 D h H → va_S (v_A s0) s.heap H locs → lv_has ls M.2.2.1 lv → W p l e R s m args below meth c H locs cells slots Q (F0 m pc ls st)
theorem PV_of (F : v_Fx p s0 s m args meth c M) (r1 : d ≤ R.frames) (r2 : 64 * d ≤ R.locals) (fin : v_Fin l s0 D p e R s m args below meth c Q M Post PX) (hV : V l s0 D d mc ms M Post PX pc lv st h) : PV p l e R s s0 D m args below meth c Q M mc ms pc lv st h :=
  fun H locs cells slots ls r3 r4 w hS hl => hV p e R s m args below meth c H locs cells slots ls Q F r1 r2 r3 r4 fin w hS hl
theorem PV_iload_n {i : Fin 4} {x : Int32} (F : v_Fx p s0 s m args meth c M) (hd : decode M.2.1 pc = .ok (.iload_n i, 1)) (hv : v_get lv (i : Nat) = some (.int x)) (k : PV p l e R s s0 D m args below meth c Q M mc ms (pc + 1) lv (.int x :: st) h) : PV p l e R s s0 D m args below meth c Q M mc ms pc lv st h :=
  fun H locs cells slots ls r3 r4 w hS hl => lv_iload_n F.1 F.2.1 hd rfl (v_loc hl hv) (k H locs cells slots ls r3 r4 w hS hl)
theorem PV_aload_n {i : Fin 4} {a : Nat} (F : v_Fx p s0 s m args meth c M) (hd : decode M.2.1 pc = .ok (.aload_n i, 1)) (hv : v_get lv (i : Nat) = some (.ref a)) (k : PV p l e R s s0 D m args below meth c Q M mc ms (pc + 1) lv (.ref a :: st) h) : PV p l e R s s0 D m args below meth c Q M mc ms pc lv st h :=
  fun H locs cells slots ls r3 r4 w hS hl => lv_aload_n F.1 F.2.1 hd rfl (v_loc hl hv) (k H locs cells slots ls r3 r4 w hS hl)
theorem PV_if_eq {x : Int32} {off : Int} {tgt : Nat} (F : v_Fx p s0 s m args meth c M) (hd : decode M.2.1 pc = .ok (.ifCond .eq off, 3)) (ht : (pc : Int) + off = (tgt : Int)) (kt : x = 0 → PV p l e R s s0 D m args below meth c Q M mc ms tgt lv st h) (kf : ¬ x = 0 → PV p l e R s s0 D m args below meth c Q M mc ms (pc + 3) lv st h) : PV p l e R s s0 D m args below meth c Q M mc ms pc lv (.int x :: st) h :=
  fun H locs cells slots ls r3 r4 w hS hl => lv_if_eq F.1 F.2.1 hd ht (fun z => kt z H locs cells slots ls r3 r4 w hS hl) (fun z => kf z H locs cells slots ls r3 r4 w hS hl)
theorem PV_if_ne {x : Int32} {off : Int} {tgt : Nat} (F : v_Fx p s0 s m args meth c M) (hd : decode M.2.1 pc = .ok (.ifCond .ne off, 3)) (ht : (pc : Int) + off = (tgt : Int)) (kt : ¬ x = 0 → PV p l e R s s0 D m args below meth c Q M mc ms tgt lv st h) (kf : x = 0 → PV p l e R s s0 D m args below meth c Q M mc ms (pc + 3) lv st h) : PV p l e R s s0 D m args below meth c Q M mc ms pc lv (.int x :: st) h :=
  fun H locs cells slots ls r3 r4 w hS hl => lv_if_ne F.1 F.2.1 hd ht (fun z => kt z H locs cells slots ls r3 r4 w hS hl) (fun z => kf z H locs cells slots ls r3 r4 w hS hl)
theorem PV_getf {ci j k : Nat} {fs : List Value} {v : Value} (F : v_Fx p s0 s m args meth c M) (G : GC l s0 D a0) (hd : decode M.2.1 pc = .ok (.getfield idx, 3)) (hf : v_fld M.1.cls idx ci j) (hk : h[k]? = some (.inr (ci, fs))) (hv : fs[j]? = some v) (kk : PV p l e R s s0 D m args below meth c Q M mc ms (pc + 3) lv (v :: st) h) : PV p l e R s s0 D m args below meth c Q M mc ms pc lv (.ref (s0.heap.size + k) :: st) h := by
  intro H locs cells slots ls r3 r4 w hS hl
  obtain ⟨C, T, N, hci, hc, hj, hin, hlink⟩ := hf
  obtain ⟨hx, hb, hml, hown, -, -, -, -, hts, hW⟩ := id F
  have hK : va_K D vwCl [] s := va_K.moved hW.alike G.1
  have k1 := kk H locs cells slots ls r3 r4 w hS hl
  rcases hlink with hlink | ⟨host, hlink⟩
  · exact va_get hx hb hts hin hown hK (v_P1 w hk hci) 0 rfl hc j hj (hts _ hlink) (fun x h => h) hv hd k1
  · exact va_getN hx hb hts hin hown hK (v_P1 w hk hci) 0 rfl hc j hj (v_nest G hW hlink) (fun x h => h) hv hd k1
theorem PV_callV {ci k : Nat} {fs : List Value} (F : v_Fx p s0 s m args meth c M) (r1 : d + 1 ≤ R.frames) (r2 : 64 * (d + 1) ≤ R.locals) (G : GC l s0 D a0) (hd : decode M.2.1 pc = .ok (.invokevirtual idx, 3)) (hc : v_cV M.1.cls idx M' as.length) (hk : h[k]? = some (.inr (ci, fs))) (hci : ci < 100 ∧ (vwCl[ci]?).map (fun q => q.1) = some M'.1.cls) (hS' : Sp l s0 D d 0 0 M' Post' v_noX (.ref (s0.heap.size + k) :: as) h) (hst : stk = as.reverse ++ .ref (s0.heap.size + k) :: st) (hw8 : (st.map fun v => v.category).sum ≤ 8)
    (kk : ∀ v h', Post' v h' → PV p l e R s s0 D m args below meth c Q M mc ms (pc + 3) lv (v_pu v st) h') : PV p l e R s s0 D m args below meth c Q M mc ms pc lv stk h := by
  intro H locs cells slots ls r3 r4 w hS hl
  obtain ⟨hx0, hb, hml, hown, -, -, -, -, hts, hW⟩ := id F
  obtain ⟨⟨hcode, hini, hnm, hloc⟩, hlink, hin, hsel⟩ := hc
  have hK : va_K D vwCl [] s := va_K.moved hW.alike G.1
  obtain ⟨r, hr1, hr2⟩ := Option.map_eq_some_iff.mp hci.2
  have hrecv := va_recv hK (v_P1 w hk hci.1) hr1 (q0 := 0) rfl
  rw [hr2] at hrecv
  have hr : vx_Run p l e R s m args below meth c H locs cells slots 0 0 (F0 m pc ls stk) st (v_Qc s0 D Post' (Value.ref (s0.heap.size + k) :: as).toArray) (v_XC s0 D v_noX) (v_A s0) := vx_runV (n := as.length) ⟨hx0, hb, hml, hown, hts⟩ hS' ⟨callB_of (Ts := gw) as.length hts (gw_good M' hcode) rfl rfl rfl (hts _ hini) (hts _ hlink) hnm ⟨r1, by show 8 + (M'.2.2.1 + 11) + 64 * d ≤ R.locals; omega⟩, hts _ hin, hts _ hsel⟩ ⟨v_blind, hrecv, v_pre w hW⟩ rfl rfl hl.1 hst (lv_room hw8) hd ⟨by omega, by omega⟩
  intro T hT X
  rcases hr T hT X with ⟨v, st₀, t, T', L, h0, X', hL, e1, e2, ⟨v', h', hv, hp, hw', hF⟩, hst⟩ | ⟨q, st₀, t, T', L, E, ce, h0, X', hL, e1, e2, ⟨h', hp, hw', hF⟩, hce, hcv, hcl, hst⟩
  · cases hv
    obtain ⟨-, -, k3⟩ := vx_keep (A1 := v_A s0) (free := v_A s0) h0 e1 hS (fun _ _ z => z) (fun _ z => z) hL hF
    obtain ⟨t2, a1, b1⟩ := kk v h' hp T'.heap _ _ _ ls (by omega) (by omega) (by rw [e1]; exact hw') k3 hl T' rfl X'
    rw [← v_pu_eq] at a1
    exact ⟨t2, hst t2 a1, b1⟩
  · exact hp.elim
theorem PV_gR {sh : List Sh} {S : St} {k ci j o a : Nat} {ks : List (Nat × Nat)} (F : v_Fx p s0 s m args meth c M) (G : GC l s0 D a0) (hd : decode M.2.1 pc = .ok (.getfield idx, 3)) (hf : v_fld M.1.cls idx ci j) (hk : sh[k]? = some (.inr (ci, ks))) (hj : ks[j]? = some (3, o)) (hr : sR S k j = some a) (kk : PV p l e R s s0 D m args below meth c Q M mc ms (pc + 3) lv (.ref (s0.heap.size + a) :: st) (wd s0.heap.size sh S)) : PV p l e R s s0 D m args below meth c Q M mc ms pc lv (.ref (s0.heap.size + k) :: st) (wd s0.heap.size sh S) :=
  PV_getf F G hd hf (wd_at hk) (wd_fld hj) (by show PV _ _ _ _ _ _ _ _ _ _ _ _ _ _ _ _ _ _ (v_rf s0.heap.size (sR S k j) :: st) _; rw [hr]; exact kk)
theorem v_at_eq {k : Nat} {c : AC} {H H1 : Heap} (h : v_at s0 D k c H) (e : H1[s0.heap.size + k]? = H[s0.heap.size + k]?) : v_at s0 D k c H1 := by
  cases c with
  | inl x => obtain ⟨cA, h1, h2⟩ := h; exact ⟨cA, h1, e.trans h2⟩
  | inr o =>
    intro z
    obtain ⟨r, h1, cell, q1, q2⟩ := h z
    exact ⟨r, h1, cell, e.trans q1, q2⟩
end PVS
theorem wd_ex (B : Nat) (sh : List Sh) (S : St) : wd B (sh ++ exSh) S = wd B sh S ++ [.inr (100, [])] := by
  rw [wd_app]; rfl
set_option maxRecDepth 100000 in
set_option maxHeartbeats 4000000 in
theorem s_X8_side {l : Launch} {s0 : State} {D : va_G} {a0 : Array Value} {sh : List Sh} {f : Nat} {S : St} {t : Nat} {p1 p2 : Int32} (ht : isX8 sh t) {r : (Int32 × St) ⊕ St} (G2 : GC2 l s0 D a0) (hF : F_X8_side sh f S t p1 p2 = some r) {d : Nat} (hd : 8 ≤ d) :
    Sp l s0 D d 1 6 mX8_side (fun v h => ∃ q, r = .inl q ∧ v = some (.int q.1) ∧ h = wd s0.heap.size sh q.2) (fun q E h => E = nsee ∧ ∃ S1, r = .inr S1 ∧ h = wd s0.heap.size (sh ++ exSh) S1) [.ref (s0.heap.size + t), .int p1, .int p2] (wd s0.heap.size sh S) := by
  have G := G2.1
  obtain ⟨d, rfl⟩ : ∃ e, d = e + 1 := ⟨d - 1, by omega⟩
  refine v_ofW (cc := mX8_side.2.1) (maxL := mX8_side.2.2.1) (ret := mX8_side.2.2.2.1) (by decide +kernel) rfl ?_
  intro p e s m args below meth c s₁ B hml ht0 hv
  obtain ⟨rfl, w, hW⟩ := hv
  have hts := atoms_spec (ws := v_ws mX8_side) B.pre
  have htb' : c.exceptionTable.toList = mX8_side.2.2.2.2 := List.eq_nil_iff_forall_not_mem.mpr (fun x hx => ht0 x hx)
  have hx := B.exec
  have hb := B.bytes
  have hr := B.returns
  have hlocks := B.notSynchronized
  have hname := (name_of_methodNamed B.named B.method).1
  have hl := lv_entry [Value.ref (s0.heap.size + t), .int p1, .int p2] (n := mX8_side.2.2.1) (Nat.le_of_ble_eq_true rfl)
  rw [lg_entry_eq]
  generalize (lg_sl [Value.ref (s0.heap.size + t), .int p1, .int p2] ++ List.replicate (mX8_side.2.2.1 - (lg_sl [Value.ref (s0.heap.size + t), .int p1, .int p2]).length) Slot.unset).toArray = ls at hl ⊢
  have F : v_Fx p s0 s m [Value.ref (s0.heap.size + t), .int p1, .int p2].toArray meth c mX8_side := ⟨hx, hb, hml, findClass_of_methodNamed B.named, hr, hlocks, htb', hname, fun w hw => hts w (List.mem_cons_of_mem _ hw), hW⟩
  refine (?_ : PV p l e _ s s0 D m _ below meth c _ mX8_side 1 6 0 [(0, .ref (s0.heap.size + t)), (1, .int p1), (2, .int p2)] [] (wd s0.heap.size sh S)) s.heap [] 0 0 ls (by show 0 + 1 ≤ 1; omega) (by show 0 + 6 ≤ 6; omega) w va_S.rf hl
  have hthrow : ∀ S1, r = .inr S1 → S1 = S → PV p l e (v_rm (d + 1) 1 6) s s0 D m [Value.ref (s0.heap.size + t), .int p1, .int p2].toArray below meth c (vx_MQ below (v_Qc s0 D (fun v h => ∃ q, r = .inl q ∧ v = some (.int q.1) ∧ h = wd s0.heap.size sh q.2)) (v_XC s0 D (fun q E h => E = nsee ∧ ∃ S1, r = .inr S1 ∧ h = wd s0.heap.size (sh ++ exSh) S1)) [Value.ref (s0.heap.size + t), .int p1, .int p2].toArray s 1 6 (v_A s0)) mX8_side 1 6 20 [(0, .ref (s0.heap.size + t)), (1, .int p1), (2, .int p2)] [] (wd s0.heap.size sh S) := by
    intro S1 hr1 hS1
    subst hS1
    intro H locs cells slots ls r3 r4 w hS hl
    refine v_throw0 hx hb G.2.2.1 (own := RX8) (cls := nsee) (names := ["java/lang/RuntimeException", "java/lang/Exception"]) (ik := 170) (ic := 172) (A := fun z => s0.heap.size ≤ z) F.2.2.2.1 (by decide +kernel) (by decide +kernel) (F.2.2.2.2.2.2.2.2.1 _ (gw_t 1120 (by decide +kernel) rfl)) (F.2.2.2.2.2.2.2.2.1 _ (gw_t 23 (by decide +kernel) rfl)) (nsL_at G2 hW.alike F.2.2.2.2.2.2.2.2.1) nsL_ot ((G2.2.2.2.1.moved hW.alike).kept (fun a ha _ => w.2.2 a ha)) ((G2.2.2.2.2.1.moved hW.alike).kept (fun a ha _ => w.2.2 a ha)) (hl.1.trans hml.symm) dX8_side_20 dX8_side_23 dX8_side_24 dX8_side_27 (fun x hx => (ht0 x hx).elim) (by show 2 + 3 < d + 1; omega) (by show 0 + (13 * 3 + 42) ≤ 64 * (d + 1); omega) (by show cells + 1 ≤ 1; exact r3) (by show slots + 6 ≤ 6; exact r4) hlocks ?_ (fun z hz => hS.2.2 z hz) r3 r4
    intro u hz hq
    refine ⟨wd s0.heap.size (sh ++ exSh) S1, ⟨rfl, S1, hr1, rfl⟩, ⟨?_, ?_, ?_⟩, ?_, ?_⟩
    · rw [hz, w.1, wd_ex, List.length_append]; rfl
    · intro k c0 hk
      rw [wd_ex] at hk
      by_cases hlt : k < (wd s0.heap.size sh S1).length
      · rw [List.getElem?_append_left hlt] at hk
        have := w.2.1 k c0 hk
        have hh : u.heap[s0.heap.size + k]? = H[s0.heap.size + k]? := hq _ (by rw [w.1]; omega)
        exact v_at_eq this hh
      · have hk' : k = (wd s0.heap.size sh S1).length := by
          have := (List.getElem?_eq_some_iff.mp hk).1
          rw [List.length_append] at this
          simp at this
          omega
        subst hk'
        rw [List.getElem?_append_right (Nat.le_refl _), Nat.sub_self] at hk
        cases hk
        exact fun h => absurd h (by decide)
    · intro q hq1
      rw [hq q (by rw [w.1]; omega)]
      exact w.2.2 q hq1
    · rw [hz]; exact Nat.le_succ_of_le hS.1
    · intro q hq1 hq2
      rw [hq q (Nat.lt_of_lt_of_le hq1 hS.1)]
      exact hS.2.1 q hq1 hq2
  unfold F_X8_side at hF
  obtain ⟨y1, hc1, hF⟩ := bd hF
  refine PV_aload_n F dX8_side_0 rfl ?_
  refine PV_iload_n F dX8_side_1 rfl ?_
  refine PV_callV (as := [.int p1]) (d := d) F (Nat.le_refl _) (Nat.le_refl _) G dX8_side_2 kX8_153 (wd_at ht.1) ⟨by decide, rfl⟩ (s_X8_isListed ht G hc1 (by omega)) rfl (Nat.le_of_ble_eq_true rfl) ?_
  rintro _ _ ⟨rfl, rfl⟩
  refine PV_if_eq (tgt := 20) F dX8_side_5 (by decide) (fun c0 => ?_) (fun c0 => ?_)
  · replace hF := (if_pos c0).symm.trans hF
    cases hF
    exact hthrow _ rfl rfl
  · replace hF := (if_neg c0).symm.trans hF
    obtain ⟨b2, hrb2, hF⟩ := bd hF
    obtain ⟨hb2, hF⟩ := gv_in hF
    replace hb2 := ckX3_ok hb2
    refine PV_aload_n F dX8_side_8 rfl ?_
    refine PV_gR F G dX8_side_9 fX8_70 ht.1 rfl hrb2 ?_
    refine PV_iload_n F dX8_side_12 rfl ?_
    refine PV_iload_n F dX8_side_13 rfl ?_
    obtain ⟨y3, hc3, hF⟩ := bd hF
    refine PV_callV (as := [.int p1, .int p2]) (d := d) F (Nat.le_refl _) (Nat.le_refl _) G dX8_side_14 kX8_166 (wd_at hb2.1) ⟨by decide, rfl⟩ (s_X3_hasCut hb2 G hc3 (by omega)) rfl (Nat.le_of_ble_eq_true rfl) ?_
    rintro _ _ ⟨rfl, rfl⟩
    refine PV_if_ne (tgt := 28) F dX8_side_17 (by decide) (fun c1 => ?_) (fun c1 => ?_)
    · replace hF := (if_neg c1).symm.trans hF
      obtain ⟨y4, hc4, hF⟩ := bd hF
      cases hF
      refine PV_of (d := d + 1) (Post := fun v h => v = some (.int y4) ∧ h = wd s0.heap.size sh S) (PX := v_noX) F (Nat.le_refl _) (Nat.le_refl _) ⟨?_, fun _ _ _ _ _ _ _ _ _ _ _ q => q.elim⟩ ?_
      · intro v h H locs cells slots pc ls hp w hS hc hs hR
        refine vx_ret (W.widen (k := 1) (n := 6) hc hs ?_)
        have hq : ∀ u : State, u.heap = H → s.WarmedH u.vm → v_Qc s0 D (fun v h => ∃ q : Int32 × St, Sum.inl (y4, S) = (Sum.inl q : (Int32 × St) ⊕ St) ∧ v = some (.int q.1) ∧ h = wd s0.heap.size sh q.2) [Value.ref (s0.heap.size + t), .int p1, .int p2].toArray s (.returned v) u := fun u hu _ => ⟨v, h, rfl, ⟨(y4, S), rfl, hp.1, hp.2⟩, by rw [hu]; exact w, hS.F hu⟩
        rcases hR with ⟨rfl, hn, hd⟩ | ⟨x, ty, rfl, hn, hnn, hd⟩ | ⟨x, rfl, hn, hd⟩ | ⟨a, n, rfl, hn, hd⟩
        · exact W.vret hx hb (hr.trans hn) hq (fun q hq => hS.2.2 q hq) hd hlocks
        · exact W.zret hx hb (hr.trans hn) hnn hq (fun q hq => hS.2.2 q hq) hd hlocks
        · exact W.lret hx hb (hr.trans hn) hq (fun q hq => hS.2.2 q hq) hd hlocks
        · exact W.aret hx hb (hr.trans hn) (Or.inl ⟨n, rfl⟩) (Or.inr ⟨a, rfl⟩) hq (fun q hq => hS.2.2 q hq) hd hlocks
      · refine V_aload_n dX8_side_28 rfl ?_
        refine X_gR G dX8_side_29 fX8_70 ht.1 rfl hrb2 ?_
        refine V_iload_n dX8_side_32 rfl ?_
        refine V_iload_n dX8_side_33 rfl ?_
        refine V_callV0 (as := [.int p1, .int p2]) G dX8_side_34 kX8_173 (wd_at hb2.1) ⟨by decide, rfl⟩ (s_X3_sideOf hb2 G hc4 (by omega)) rfl (Nat.le_of_ble_eq_true rfl) (fun _ _ _ q => q.elim) ?_
        rintro _ _ ⟨rfl, rfl⟩
        exact V_ireturn dX8_side_37 rfl rfl ⟨rfl, rfl⟩
    · replace hF := (if_pos c1).symm.trans hF
      cases hF
      exact hthrow _ rfl rfl
set_option maxRecDepth 100000 in
set_option maxHeartbeats 4000000 in
theorem s_L_side {l : Launch} {s0 : State} {D : va_G} {a0 : Array Value} {sh : List Sh} {f : Nat} {S : St} {t o : Nat} {p1 p2 : Int32} (ht : isX8 sh t) (ho : sh[o]? = some (.inl (.long, 1))) {r : List Sh × Int32 × St} (G2 : GC2 l s0 D a0) (hF : F_L_side sh f S t p1 p2 o = some r) {d : Nat} (hd : 13 ≤ d) : SpH l s0 D d 1 6 mL_side [(0, 10, 13, 13)] (fun v h => v = some (.int r.2.1) ∧ h = wd s0.heap.size r.1 r.2.2) v_noX [.ref (s0.heap.size + t), .int p1, .int p2, .ref (s0.heap.size + o)] (wd s0.heap.size sh S) := by
  have G := G2.1
  obtain ⟨d, rfl⟩ : ∃ e, d = e + 1 := ⟨d - 1, by omega⟩
  refine SpH.of (by decide +kernel) rfl (Nat.le_of_ble_eq_true rfl) ?_
  unfold F_L_side at hF
  obtain ⟨y, hc, hF⟩ := bd hF
  refine V_aload_n dL_side_0 rfl ?_
  refine V_iconst (v := 0) dL_side_1 (by decide) ?_
  refine V_aload_n dL_side_2 rfl ?_
  refine V_iload_n dL_side_3 rfl ?_
  refine V_iload_n dL_side_4 rfl ?_
  refine V_callVC (mc := 0) (ms := 0) (mc' := 1) (ms' := 6) (as := [.int p1, .int p2]) (x := ⟨0, 10, 13, 13⟩) (E0 := nsee) (name := nsee) G dL_side_5 kL_7 (wd_at ht.1) ⟨by decide, rfl⟩ (s_X8_side ht G2 hc (by omega)) rfl (Nat.le_of_ble_eq_true rfl) rfl (by decide) (by decide) clL_13 G2.2.2.2.2.2.2.2 (by rintro _ _ _ ⟨h, _⟩; exact h) ?_ ?_
  · rintro q _ _ ⟨rfl, S1, rfl, rfl⟩
    cases hF
    refine V_astore dL_side_13 (by decide) ?_
    refine V_iconst (v := 1) dL_side_15 (by decide) ?_
    exact V_ireturn dL_side_16 rfl rfl ⟨rfl, rfl⟩
  · rintro _ _ ⟨q, rfl, rfl, rfl⟩
    obtain ⟨S1, qS1, hF⟩ := bnd_g hF
    refine V_i2l dL_side_8 ?_
    refine X_last dL_side_9 ho (by unfold vp_in; decide) ?_
    refine V_eqS qS1 ?_
    refine V_goto (tgt := 17) dL_side_10 (by decide) ?_
    cases hF
    refine V_iconst (v := 0) dL_side_17 (by decide) ?_
    exact V_ireturn dL_side_18 rfl rfl ⟨rfl, rfl⟩

