/-! methods with a table of handlers; a throw of a callee that is caught; a throw of a new exception -/
section CT
/-- what the search for a handler finds where the first row of the table takes what was thrown -/
theorem v_find {e : Env} {s : State} {f : JFrame} {a : Addr} {meth : Method} {code : Code} {x : ExceptionTableEntry} {t : List ExceptionTableEntry} {c : ClassId} {cell : Cell} (hm : s.vm.method? f.method = some meth) (hc : meth.code = some code) (htab : code.exceptionTable.toList = x :: t) (hx : covers x f.pc = true) (h0 : x.catchType ≠ 0)
    (hl : s.vm.ClassLinks e.platform f.method.cls x.catchType c) (hcell : s.heap[a]? = some cell) (hobj : ∀ k, cell.vm ≠ .statics k) (hk : ∃ k, s.vm.classes[cell.cls]? = some k) (hcl : ∃ k, s.vm.classes[c]? = some k) (hfit : s.vm.assignable cell.cls c = true) (Q : Handler → Pre) (E : CtlPost) (d : Bool) (acts : List Action) :
    wp (findHandler f a) Q E e d acts s ↔ Q (.found x.handlerPc) d acts (s.setVm (s.vm.noted f.method.cls x.catchType (.cls c))) := by
  rw [_root_.Jvm.W.findHandler_eq hm hc, htab]
  simp only [covers] at hx
  obtain ⟨ha, ht⟩ := (resolveClass_links e.toSetting hl).op (op := VmOp.resolveClass f.method.cls x.catchType) rfl
  have hal : s.vm.Alike (s.vm.noted f.method.cls x.catchType (.cls c)) := (Vm.Alike.refl s.vm).noted _ _ _
  obtain ⟨k1, hk1⟩ := hk
  obtain ⟨k2, hk2⟩ := hcl
  obtain ⟨k1', hk1', -⟩ := hal.2.2 _ _ hk1
  obtain ⟨k2', hk2', -⟩ := hal.2.2 _ _ hk2
  have hfit' : (s.vm.noted f.method.cls x.catchType (.cls c)).assignable cell.cls c = true := by rw [hal.assignable]; exact hfit
  simp [findHandler.go, hx, h0, ha, ht, hcell, hobj, hk1', hk2', hfit', VmOp.dirties, VmOp.acts]
theorem v_caught {tb : Tables} {e : Env} {s target : State} {g : JFrame} {c : Code} {below : List Frame} {a : Addr} (h : At s g.method c below) {pc : Nat} {vm' : Vm}
    (hfind : ∀ (Q : Handler → Pre) (E : CtlPost) (d : Bool) (acts : List Action), wp (findHandler g a) Q E e d acts ((s.setTop g).pushFrame (.throwing a)) ↔ Q (.found pc) d acts (((s.setTop g).pushFrame (.throwing a)).setVm vm')) (hrest : Steps tb e below ((s.setVm vm').setTop { g with pc := pc, stack := [.ref a] }) target) :
    Steps tb e below ((s.setTop g).pushFrame (.throwing a)) target := by
  obtain ⟨hgo, hw⟩ := h.throwing a
  refine Steps.head hgo hw ?_
  have hst : ∀ r, (stepThrowing e ((s.setTop g).pushFrame (.throwing a)) a (.java g :: r)).1 = (((s.setTop g).pushFrame (.throwing a)).setVm vm').setFrames (.java { g with pc := pc, stack := [.ref a] } :: r) := by
    intro r
    simp only [stepThrowing, searchFrame, vmDo]
    generalize hr : Sem.go _ e false [] _ = res
    obtain ⟨as, rfl, ha⟩ := Sem.eq_ok_of hr (a := Handler.found pc) (s' := ((s.setTop g).pushFrame (.throwing a)).setVm vm') (acts' := []) (by simp [hfind _ _ _ _])
    rfl
  rw [stepThread_throwing (frames_entered h.top _), hst]
  obtain ⟨g₀, hg⟩ := Option.isSome_iff_exists.mp h.top
  obtain ⟨r, hr⟩ := State.topJava?_eq_some.mp hg
  have hr' : (s.setVm vm').frames = .java g₀ :: r := hr
  have hsf : ∀ (u : State) (F G : List Frame), ((u.setFrames F).setVm vm').setFrames G = (u.setVm vm').setFrames G := fun u F G => by
    have h1 : (u.setFrames F).setVm vm' = (u.setVm vm').setFrames F := rfl
    rw [h1, State.setFrames_setFrames]
  rw [State.setTop_of_frames _ hr'] at hrest
  rw [hr, List.tail_cons, State.pushFrame, hsf, State.setTop_of_frames _ hr, hsf]
  exact hrest
variable {l : Launch} {s0 : State} {D : va_G} {d mc ms mc' ms' : Nat} {M M' : MI} {Post Post' : Option Value → AH → Prop} {PX PX' : Nat → String → AH → Prop} {pc idx : Nat} {lv : List (Nat × Value)} {st stk as : List Value} {h : AH} {a0 : Array Value}
/-- a call inside a 'try': what it throws goes to the handler -/
theorem v_goC {p : Program} {e : Env} {R : Room} {s : State} {m : MethodId} {args : Array Value} {below : List Frame} {meth : Method} {c : Code} {H : Heap} {locs : List Loc} {cells slots : Nat} {ls : Array Slot} {Q : State → Prop} {av : Array Value} {x : ExceptionTableEntry} {E0 name : String}
    (hr : vx_Run p l e R s m args below meth c H locs cells slots mc' ms' (F0 m pc ls stk) st (v_Qc s0 D Post' av) (v_XC s0 D PX') (v_A s0)) (F : v_Fx p s0 s m args meth c M) (r1 : d + 1 ≤ R.frames) (r2 : 64 * (d + 1) ≤ R.locals) (r3 : cells + (mc + mc') ≤ R.cells) (r4 : slots + (ms + ms') ≤ R.slots) (fin : v_Fin l s0 D p e R s m args below meth c Q M Post PX) (hS : va_S (v_A s0) s.heap H locs) (hl : lv_has ls M.2.2.1 lv)
    (htb : M.2.2.2.2 = [x]) (hcov : covers x pc = true) (h0 : x.catchType ≠ 0) (hlink : Cond.classLink M.1.cls x.catchType name ∈ gw) (hcast : v_cast s0 E0 name) (hE : ∀ q E h', PX' q E h' → E = E0)
    (kx : ∀ q E h', PX' q E h' → V l s0 D (d + 1) mc ms M Post PX x.handlerPc lv [.ref q] h') (kk : ∀ v h', Post' v h' → V l s0 D (d + 1) mc ms M Post PX (pc + 3) lv (v_pu v st) h') : W p l e R s m args below meth c H locs cells slots Q (F0 m pc ls stk) := by
  obtain ⟨hx0, hb, hml, hown, -, -, htab, -, hts, hW⟩ := id F
  intro T hT X
  rcases hr T hT X with ⟨v, st₀, t, T', L, hh0, X', hL, e1, e2, ⟨v', h', hv, hp, hw', hF⟩, hst⟩ | ⟨q, st₀, t, T', L, E, ce, hh0, X', hL, e1, e2, ⟨h', hp, hw', hF⟩, hce, hcv, hcl, hst⟩
  · cases hv
    obtain ⟨-, -, k3⟩ := vx_keep (A1 := v_A s0) (free := v_A s0) hh0 e1 hS (fun _ _ z => z) (fun _ z => z) hL hF
    obtain ⟨t2, a1, b1⟩ := kk v h' hp p e R s m args below meth c T'.heap _ _ _ ls Q F r1 r2 (by omega) (by omega) fin (by rw [e1]; exact hw') k3 hl T' rfl X'
    rw [← v_pu_eq] at a1
    exact ⟨t2, hst t2 a1, b1⟩
  · obtain ⟨-, -, k3⟩ := vx_keep (A1 := v_A s0) (free := v_A s0) hh0 e1 hS (fun _ _ z => z) (fun _ z => z) hL hF
    have hE0 := hE q E h' hp
    subst hE0
    have hpl : e.platform.magicAccessors = ({} : Platform).magicAccessors := by rw [X.admits.platform]
    obtain ⟨c3, c4, hc3, hc4, hasg⟩ := hcast
    rw [← hW.alike.findClass] at hc3 hc4
    rw [← hW.alike.assignable] at hasg
    cases Option.some.inj (hc3.symm.trans hcl)
    obtain ⟨c5, hc5, hcl5⟩ := Cond.classLink_spec hown (hts _ hlink) e.platform hpl
    cases Option.some.inj (hc4.symm.trans hc5)
    obtain ⟨dk, _, _, kt, hd9, _, _, _, _, hkt, _, hopen⟩ := hcl5.here
    have hWn := X'.warmed.noted hd9 hopen (State.rightAt_cls hcl5)
    obtain ⟨t2, a1, b1⟩ := kx q E h' hp p e R s m args below meth c T'.heap _ _ _ ls Q F r1 r2 (by omega) (by omega) fin (by rw [e1]; exact hw') k3 hl (T'.setVm (T'.vm.noted m.cls x.catchType (.cls c4))) rfl (X'.noted hWn)
    obtain ⟨kt', hkt', -⟩ := X'.warmed.alike.2.2 _ _ hkt
    have hfit' : T'.vm.assignable ce.cls c4 = true := by rw [X'.warmed.alike.assignable]; exact hasg
    refine ⟨t2, hst.trans (v_caught X'.here (g := { F0 m pc ls stk with stack := st }) (v_find (s := (T'.setTop { F0 m pc ls stk with stack := st }).pushFrame (.throwing q)) (meth := meth) (code := c) X'.method' X'.code (by rw [htab, htb]) hcov h0 (c := c4) (cell := ce) (X'.warmed.classLinks hcl5) (by show T'.heap[q]? = some ce; rw [e1]; exact hce) (fun k hk => by rw [hcv] at hk; cases hk) (Vm.classAt_of_assignable hfit' ⟨kt', hkt'⟩) ⟨kt', hkt'⟩ hfit') a1), b1⟩
theorem V_callVC {ci k : Nat} {fs : List Value} {x : ExceptionTableEntry} {E0 name : String} (G : GC l s0 D a0) (hd : decode M.2.1 pc = .ok (.invokevirtual idx, 3)) (hc : v_cV M.1.cls idx M' as.length) (hk : h[k]? = some (.inr (ci, fs))) (hci : ci < 100 ∧ (vwCl[ci]?).map (fun q => q.1) = some M'.1.cls) (hS' : Sp l s0 D d mc' ms' M' Post' PX' (.ref (s0.heap.size + k) :: as) h) (hst : stk = as.reverse ++ .ref (s0.heap.size + k) :: st) (hw8 : (st.map fun v => v.category).sum ≤ 8)
    (htb : M.2.2.2.2 = [x]) (hcov : covers x pc = true) (h0 : x.catchType ≠ 0) (hlink : Cond.classLink M.1.cls x.catchType name ∈ gw) (hcast : v_cast s0 E0 name) (hE : ∀ q E h', PX' q E h' → E = E0)
    (kx : ∀ q E h', PX' q E h' → V l s0 D (d + 1) mc ms M Post PX x.handlerPc lv [.ref q] h') (kk : ∀ v h', Post' v h' → V l s0 D (d + 1) mc ms M Post PX (pc + 3) lv (v_pu v st) h') : V l s0 D (d + 1) (mc + mc') (ms + ms') M Post PX pc lv stk h := by
  intro p e R s m args below meth c H locs cells slots ls Q F r1 r2 r3 r4 fin w hS hl
  obtain ⟨hx0, hb, hml, hown, -, -, -, -, hts, hW⟩ := id F
  obtain ⟨⟨hcode, hini, hnm, hloc⟩, hlk, hin, hsel⟩ := hc
  have hK : va_K D vwCl [] s := va_K.moved hW.alike G.1
  obtain ⟨r, hr1, hr2⟩ := Option.map_eq_some_iff.mp hci.2
  have hrecv := va_recv hK (v_P1 w hk hci.1) hr1 (q0 := 0) rfl
  rw [hr2] at hrecv
  exact v_goC (vx_runV (n := as.length) ⟨hx0, hb, hml, hown, hts⟩ hS' ⟨callB_of (Ts := gw) as.length hts (gw_good M' hcode) rfl rfl rfl (hts _ hini) (hts _ hlk) hnm ⟨r1, by show 8 + (M'.2.2.1 + 11) + 64 * d ≤ R.locals; omega⟩, hts _ hin, hts _ hsel⟩ ⟨v_blind, hrecv, v_pre w hW⟩ rfl rfl hl.1 hst (lv_room hw8) hd ⟨by omega, by omega⟩) F r1 r2 r3 r4 fin hS hl htb hcov h0 hlink hcast hE kx kk
theorem V_callVC0 {ci k : Nat} {fs : List Value} {x : ExceptionTableEntry} {E0 name : String} (G : GC l s0 D a0) (hd : decode M.2.1 pc = .ok (.invokevirtual idx, 3)) (hc : v_cV M.1.cls idx M' as.length) (hk : h[k]? = some (.inr (ci, fs))) (hci : ci < 100 ∧ (vwCl[ci]?).map (fun q => q.1) = some M'.1.cls) (hS' : Sp l s0 D d 0 0 M' Post' PX' (.ref (s0.heap.size + k) :: as) h) (hst : stk = as.reverse ++ .ref (s0.heap.size + k) :: st) (hw8 : (st.map fun v => v.category).sum ≤ 8)
    (htb : M.2.2.2.2 = [x]) (hcov : covers x pc = true) (h0 : x.catchType ≠ 0) (hlink : Cond.classLink M.1.cls x.catchType name ∈ gw) (hcast : v_cast s0 E0 name) (hE : ∀ q E h', PX' q E h' → E = E0)
    (kx : ∀ q E h', PX' q E h' → V l s0 D (d + 1) mc ms M Post PX x.handlerPc lv [.ref q] h') (kk : ∀ v h', Post' v h' → V l s0 D (d + 1) mc ms M Post PX (pc + 3) lv (v_pu v st) h') : V l s0 D (d + 1) mc ms M Post PX pc lv stk h :=
  V_callVC (mc' := 0) (ms' := 0) G hd hc hk hci hS' hst hw8 htb hcov h0 hlink hcast hE kx kk
theorem V_callV0 {ci k : Nat} {fs : List Value} (G : GC l s0 D a0) (hd : decode M.2.1 pc = .ok (.invokevirtual idx, 3)) (hc : v_cV M.1.cls idx M' as.length) (hk : h[k]? = some (.inr (ci, fs))) (hci : ci < 100 ∧ (vwCl[ci]?).map (fun q => q.1) = some M'.1.cls) (hS' : Sp l s0 D d 0 0 M' Post' PX' (.ref (s0.heap.size + k) :: as) h) (hst : stk = as.reverse ++ .ref (s0.heap.size + k) :: st) (hw8 : (st.map fun v => v.category).sum ≤ 8)
    (hx : ∀ q E h', PX' q E h' → PX q E h' ∧ ∀ x ∈ M.2.2.2.2, covers x pc = false) (kk : ∀ v h', Post' v h' → V l s0 D (d + 1) mc ms M Post PX (pc + 3) lv (v_pu v st) h') : V l s0 D (d + 1) mc ms M Post PX pc lv stk h :=
  V_callV (mc' := 0) (ms' := 0) G hd hc hk hci hS' hst hw8 hx kk
/-- contracts of methods with a table -/
def v_wsH (M : MI) (hh : List (Nat × Nat × Nat × Nat)) : List Cond := Cond.codeWith M.1 M.2.1 M.2.2.1 M.2.2.2.1 hh :: gw
def SpH (l : Launch) (s0 : State) (D : va_G) (d mc ms : Nat) (M : MI) (hh : List (Nat × Nat × Nat × Nat)) (Post : Option Value → AH → Prop) (PX : Nat → String → AH → Prop) (as : List Value) (h : AH) : Prop :=
  vx_Met l M.1 (v_wsH M hh) (v_rm d mc ms) (v_Pc s0 D as h) (v_Qc s0 D Post) (v_XC s0 D PX) mc ms (v_A s0)
theorem SpH.of {hh : List (Nat × Nat × Nat × Nat)} (hy : plainName M.1.cls = true) (htb : M.2.2.2.2 = tableOf hh) (hlen : (lg_sl as).length ≤ M.2.2.1) (hV : V l s0 D d mc ms M Post PX 0 (lv_args 0 as) [] h) : SpH l s0 D d mc ms M hh Post PX as h := by
  refine vx_ofWH (cc := M.2.1) (maxL := M.2.2.1) (ret := M.2.2.2.1) hy rfl ?_
  intro p e s m args below meth c s₁ B hml hv
  obtain ⟨rfl, w, hW⟩ := hv
  have hts := atoms_spec (ws := v_wsH M hh) B.pre
  have htb' : c.exceptionTable.toList = M.2.2.2.2 := by rw [htb]; exact vx_table (x := M.1) B (hts _ List.mem_cons_self)
  have hx := B.exec
  have hb := B.bytes
  have hr := B.returns
  have hlocks := B.notSynchronized
  have hname := (name_of_methodNamed B.named B.method).1
  have hl := lv_entry as (n := M.2.2.1) hlen
  rw [lg_entry_eq]
  generalize (lg_sl as ++ List.replicate (M.2.2.1 - (lg_sl as).length) Slot.unset).toArray = ls at hl ⊢
  refine hV p e _ s m _ below meth c s.heap [] 0 0 ls _ ⟨hx, hb, hml, findClass_of_methodNamed B.named, hr, hlocks, htb', hname, fun w hw => hts w (List.mem_cons_of_mem _ hw), hW⟩ (Nat.le_refl _) (Nat.le_refl _) (by show 0 + mc ≤ mc; omega) (by show 0 + ms ≤ ms; omega) ⟨?_, ?_⟩ w va_S.rf hl
  · intro v h H locs cells slots pc ls hp w hS hc hs hR
    refine vx_ret (W.widen (k := mc) (n := ms) hc hs ?_)
    have hq : ∀ t : State, t.heap = H → s.WarmedH t.vm → v_Qc s0 D Post as.toArray s (.returned v) t := fun t ht _ => ⟨v, h, rfl, hp, by rw [ht]; exact w, hS.F ht⟩
    rcases hR with ⟨rfl, hn, hd⟩ | ⟨x, ty, rfl, hn, hnn, hd⟩ | ⟨x, rfl, hn, hd⟩ | ⟨a, n, rfl, hn, hd⟩
    · exact W.vret hx hb (hr.trans hn) hq (fun q hq => hS.2.2 q hq) hd hlocks
    · exact W.zret hx hb (hr.trans hn) hnn hq (fun q hq => hS.2.2 q hq) hd hlocks
    · exact W.lret hx hb (hr.trans hn) hq (fun q hq => hS.2.2 q hq) hd hlocks
    · exact W.aret hx hb (hr.trans hn) (Or.inl ⟨n, rfl⟩) (Or.inr ⟨a, rfl⟩) hq (fun q hq => hS.2.2 q hq) hd hlocks
  · intro q E ce h H locs cells slots pc ls st hp w hS hc hs hcell hv hcl hcov
    exact vx_out (by rw [htb']; exact hcov) hlocks hcell hv hcl (fun t ht _ => ⟨h, hp, by rw [ht]; exact w, hS.F ht⟩) (fun q hq => hS.2.2 q hq) hc hs
def v_cBH (M : MI) (hh : List (Nat × Nat × Nat × Nat)) (n : Nat) : Prop := Cond.codeWith M.1 M.2.1 M.2.2.1 M.2.2.2.1 hh ∈ gw ∧ Cond.initialized M.1.cls ∈ gw ∧ v_nm M n ∧ M.2.2.1 ≤ 45
theorem gw_goodH (M : MI) (hh : List (Nat × Nat × Nat × Nat)) (hc : Cond.codeWith M.1 M.2.1 M.2.2.1 M.2.2.2.1 hh ∈ gw) : GoodIn gw (v_wsH M hh) := by
  intro w hw
  have h1 : w ∈ gw := by
    rcases List.mem_cons.mp hw with rfl | h
    · exact hc
    · exact h
  exact ⟨h1, good_of_word (List.mem_filter.mp h1).2⟩
theorem v_lenn {n : Nat} (hnm : v_nm M n) : ∀ sig, parseMethodDescriptor M.1.desc = some sig → n = sig.parameters.length := fun sig h => by
  have h2 := hnm.2.2
  rw [h] at h2
  exact (Option.some.inj h2).symm
theorem V_callVH {ci k : Nat} {fs : List Value} {hh : List (Nat × Nat × Nat × Nat)} (G : GC l s0 D a0) (hd : decode M.2.1 pc = .ok (.invokevirtual idx, 3)) (hc : v_cBH M' hh as.length) (hlink : Cond.methodLink M.1.cls idx M'.1 ∈ gw) (hin : Cond.instanceMethod M'.1 ∈ gw) (hsel : Cond.selects M'.1.cls M'.1 M'.1 ∈ gw) (hk : h[k]? = some (.inr (ci, fs))) (hci : ci < 100 ∧ (vwCl[ci]?).map (fun q => q.1) = some M'.1.cls) (hS' : SpH l s0 D d mc' ms' M' hh Post' PX' (.ref (s0.heap.size + k) :: as) h) (hst : stk = as.reverse ++ .ref (s0.heap.size + k) :: st) (hw8 : (st.map fun v => v.category).sum ≤ 8)
    (hx : ∀ q E h', PX' q E h' → PX q E h' ∧ ∀ x ∈ M.2.2.2.2, covers x pc = false) (kk : ∀ v h', Post' v h' → V l s0 D (d + 1) mc ms M Post PX (pc + 3) lv (v_pu v st) h') : V l s0 D (d + 1) (mc + mc') (ms + ms') M Post PX pc lv stk h := by
  intro p e R s m args below meth c H locs cells slots ls Q F r1 r2 r3 r4 fin w hS hl
  obtain ⟨hx0, hb, hml, hown, -, -, -, -, hts, hW⟩ := id F
  obtain ⟨hcode, hini, hnm, hloc⟩ := hc
  have hK : va_K D vwCl [] s := va_K.moved hW.alike G.1
  obtain ⟨r, hr1, hr2⟩ := Option.map_eq_some_iff.mp hci.2
  have hrecv := va_recv hK (v_P1 w hk hci.1) hr1 (q0 := 0) rfl
  rw [hr2] at hrecv
  have hG := gw_goodH M' hh hcode
  exact v_go (vx_runVX (n := as.length) (hh := hh) ⟨hx0, hb, hml, hown, hts⟩ hS' ⟨⟨rfl, rfl, r1, by show 8 + (M'.2.2.1 + 11) + 64 * d ≤ R.locals; omega, pay_in hts hG, List.mem_cons_self⟩, hts _ hcode, hts _ hini, ⟨hnm.1, hnm.2.1⟩, v_lenn hnm, hts _ hlink, hts _ hin, hts _ hsel⟩ ⟨v_blind, hrecv, v_pre w hW⟩ rfl rfl hl.1 hst (lv_room hw8) hd ⟨by omega, by omega⟩) F r1 r2 r3 r4 fin hS hl hx kk
theorem V_callSH {hh : List (Nat × Nat × Nat × Nat)} (hd : decode M.2.1 pc = .ok (.invokestatic idx, 3)) (hc : v_cBH M' hh as.length) (hlink : Cond.methodLink M.1.cls idx M'.1 ∈ gw) (hstt : Cond.static M'.1 ∈ gw) (hS' : SpH l s0 D d mc' ms' M' hh Post' PX' as h) (hst : stk = as.reverse ++ st) (hw8 : (st.map fun v => v.category).sum ≤ 8)
    (hx : ∀ q E h', PX' q E h' → PX q E h' ∧ ∀ x ∈ M.2.2.2.2, covers x pc = false) (kk : ∀ v h', Post' v h' → V l s0 D (d + 1) mc ms M Post PX (pc + 3) lv (v_pu v st) h') : V l s0 D (d + 1) (mc + mc') (ms + ms') M Post PX pc lv stk h := by
  intro p e R s m args below meth c H locs cells slots ls Q F r1 r2 r3 r4 fin w hS hl
  obtain ⟨hx0, hb, hml, hown, -, -, -, -, hts, hW⟩ := id F
  obtain ⟨hcode, hini, hnm, hloc⟩ := hc
  have hG := gw_goodH M' hh hcode
  exact v_go (vx_runSX (n := as.length) (hh := hh) ⟨hx0, hb, hml, hown, hts⟩ hS' ⟨⟨rfl, rfl, r1, by show 8 + (M'.2.2.1 + 11) + 64 * d ≤ R.locals; omega, pay_in hts hG, List.mem_cons_self⟩, hts _ hcode, hts _ hini, ⟨hnm.1, hnm.2.1⟩, v_lenn hnm, hts _ hlink, hts _ hstt⟩ ⟨v_blind, v_pre w hW⟩ rfl rfl hl.1 hst (lv_room hw8) hd ⟨by omega, by omega⟩) F r1 r2 r3 r4 fin hS hl hx kk
end CT

