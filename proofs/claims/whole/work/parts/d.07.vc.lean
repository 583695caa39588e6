/-! methods: from V to a contract; calls -/
theorem v_ofW {l : Launch} {y : MethodName} {ws ws' : List Cond} {rm : Room} {Pc : Array Value → State → Prop} {Qc : Array Value → State → Outcome → State → Prop} {XC : Addr → String → State → State → Prop} {mc ms : Nat} {free : Addr → Prop} {cc : ByteArray} {maxL : Nat} {ret : Option FieldType}
    (hy : plainFor y = true) (hw : ws = Cond.code y cc maxL ret :: ws')
    (body : ∀ p e s m args below meth c s₁, BodyLoose p l y (headSpec ws rm) cc maxL ret e s m args below meth c s₁ → c.maxLocals = maxL → (∀ x ∈ c.exceptionTable.toList, False) → Pc args s →
      W p l e (headSpec ws rm).room s m args below meth c s.heap [] 0 0 (vx_MQ below Qc XC args s mc ms free) (entryFrame m args maxL)) : vx_Met l y ws rm Pc Qc XC mc ms free := by
  refine MetFree.of_bodySF (code := cc) (maxLocals := maxL) (ret := ret) hy ?_ ?_
  · intro args s m h hn
    obtain ⟨meth, c, h1, h2, h3, h4, h5, h6, -, -⟩ := Cond.code_spec hn (atoms_spec (ws := ws) h _ (by rw [hw]; exact List.mem_cons_self))
    exact ⟨meth, c, h1, h2, h3, h4, h5, h6⟩
  · intro p e s m args below meth c s₁ B hml hP _
    have hh0 : s₁.heap = s.heap := by rw [B.state]; rfl
    have ht : ∀ x ∈ c.exceptionTable.toList, False := by
      obtain ⟨meth9, c9, h1, h2, -, -, -, -, h7, -⟩ := Cond.code_spec B.named (atoms_spec (ws := ws) B.pre _ (by rw [hw]; exact List.mem_cons_self))
      cases Option.some.inj (h1.symm.trans B.method)
      cases Option.some.inj (h2.symm.trans (Stand.of_body B).code)
      intro x hx
      rw [Array.isEmpty_iff.mp h7] at hx
      cases hx
    obtain ⟨t, a1, o, b1, b2, b3⟩ := body p e s m args below meth c s₁ B hml ht hP s₁ hh0 (Stand.of_body B)
    exact ⟨t, o, a1, b1, b2, b3⟩
theorem Sp.of {l : Launch} {s0 : State} {D : va_G} {d mc ms : Nat} {M : MI} {Post : Option Value → AH → Prop} {PX : Nat → String → AH → Prop} {as : List Value} {h : AH} (hy : plainFor M.1 = true) (htb : M.2.2.2.2 = []) (hlen : (lg_sl as).length ≤ M.2.2.1) (hV : V l s0 D d mc ms M Post PX 0 (lv_args 0 as) [] h) : Sp l s0 D d mc ms M Post PX as h := by
  refine v_ofW (cc := M.2.1) (maxL := M.2.2.1) (ret := M.2.2.2.1) hy rfl ?_
  intro p e s m args below meth c s₁ B hml ht hv
  obtain ⟨rfl, w, hW⟩ := hv
  have hts := atoms_spec (ws := v_ws M) B.pre
  have htb' : c.exceptionTable.toList = M.2.2.2.2 := by rw [htb]; exact List.eq_nil_iff_forall_not_mem.mpr (fun x hx => ht x hx)
  have hx := B.exec
  have hb := B.bytes
  have hr := B.returns
  have hlocks := B.notSynchronized
  have hname := (name_of_methodNamed B.named B.method).1
  have hl := lv_entry as (n := M.2.2.1) hlen
  rw [lg_entry_eq]
  generalize (lg_sl as ++ List.replicate (M.2.2.1 - (lg_sl as).length) Slot.unset).toArray = ls at hl ⊢
  refine hV p e _ s m _ below meth c s.heap [] 0 0 ls _ ⟨hx, hb, hml, findClass_of_methodNamed B.named, hr, hlocks, htb', hname, fun w hw => hts w (List.mem_cons_of_mem _ hw), hW⟩ (Nat.le_refl _) (Nat.le_refl _) (by show 0 + mc ≤ mc; omega) (by show 0 + ms ≤ ms; omega) ⟨?_, ?_⟩ w va_S.rf hl
  · intro v h H locs cells slots pc ls hp w hS hc hs hR
    refine vx_ret (W.widen (k := mc) (n := ms) hc hs ?_)
    have hq : ∀ t : State, t.heap = H → s.WarmedH t.vm → v_Qc s0 D Post as.toArray s (.returned v) t := fun t ht _ => ⟨v, h, rfl, hp, by rw [ht]; exact w, hS.F ht⟩
    rcases hR with ⟨rfl, hn, hd⟩ | ⟨x, ty, rfl, hn, hnn, hd⟩ | ⟨x, rfl, hn, hd⟩ | ⟨a, n, rfl, hn, hd⟩
    · exact W.vret hx hb (hr.trans hn) hq (fun q hq => hS.2.2 q hq) hd hlocks
    · exact W.zret hx hb (hr.trans hn) hnn hq (fun q hq => hS.2.2 q hq) hd hlocks
    · exact W.lret hx hb (hr.trans hn) hq (fun q hq => hS.2.2 q hq) hd hlocks
    · exact W.aret hx hb (hr.trans hn) (Or.inl ⟨n, rfl⟩) (Or.inr ⟨a, rfl⟩) hq (fun q hq => hS.2.2 q hq) hd hlocks
  · intro q E ce h H locs cells slots pc ls st hp w hS hc hs hcell hv hcl hcov
    exact vx_out (by rw [htb']; exact hcov) hlocks hcell hv hcl (fun t ht _ => ⟨h, hp, by rw [ht]; exact w, hS.F ht⟩) (fun q hq => hS.2.2 q hq) hc hs
def v_pu (v : Option Value) (st : List Value) : List Value := match v with
  | none => st
  | some x => x :: st
theorem v_pu_eq (v : Option Value) (st : List Value) : v.toList ++ st = v_pu v st := by cases v <;> rfl
theorem gw_good (M : MI) (hc : Cond.code M.1 M.2.1 M.2.2.1 M.2.2.2.1 ∈ gw) : GoodIn gw (v_ws M) := by
  intro w hw
  have h1 : w ∈ gw := by
    rcases List.mem_cons.mp hw with rfl | h
    · exact hc
    · exact h
  exact ⟨h1, good_of_word (List.mem_filter.mp h1).2⟩
theorem v_blind {s0 : State} {D : va_G} {as : List Value} {h : AH} : FrameBlind (v_Pc s0 D as h) := fun _ _ _ _ q => q
theorem v_pre {s0 s : State} {D : va_G} {as : List Value} {h : AH} {H : Heap} (w : Wd s0 D h H) (hW : s0.WarmedH s.vm) : ∀ U : State, U.heap = H → s.WarmedH U.vm → v_Pc s0 D as h as.toArray U := fun U hU hUW => ⟨rfl, by rw [hU]; exact w, State.WarmedH.trans hW hUW⟩
section VC
variable {l : Launch} {s0 : State} {D : va_G} {d mc ms mc' ms' : Nat} {M M' : MI} {Post Post' : Option Value → AH → Prop} {PX PX' : Nat → String → AH → Prop} {pc idx : Nat} {lv : List (Nat × Value)} {st stk as : List Value} {h : AH} {a0 : Array Value}
/-- what a call's run gives the caller -/
theorem v_go {p : Program} {e : Env} {R : Room} {s : State} {m : MethodId} {args : Array Value} {below : List Frame} {meth : Method} {c : Code} {H : Heap} {locs : List Loc} {cells slots : Nat} {ls : Array Slot} {Q : State → Prop} {av : Array Value}
    (hr : vx_Run p l e R s m args below meth c H locs cells slots mc' ms' (F0 m pc ls stk) st (v_Qc s0 D Post' av) (v_XC s0 D PX') (v_A s0)) (F : v_Fx p s0 s m args meth c M) (r1 : d + 1 ≤ R.frames) (r2 : 64 * (d + 1) ≤ R.locals) (r3 : cells + (mc + mc') ≤ R.cells) (r4 : slots + (ms + ms') ≤ R.slots) (fin : v_Fin l s0 D p e R s m args below meth c Q M Post PX) (hS : va_S (v_A s0) s.heap H locs) (hl : lv_has ls M.2.2.1 lv)
    (hx : ∀ q E h', PX' q E h' → PX q E h' ∧ ∀ x ∈ M.2.2.2.2, covers x pc = false) (kk : ∀ v h', Post' v h' → V l s0 D (d + 1) mc ms M Post PX (pc + 3) lv (v_pu v st) h') : W p l e R s m args below meth c H locs cells slots Q (F0 m pc ls stk) := by
  intro T hT X
  rcases hr T hT X with ⟨v, st₀, t, T', L, h0, X', hL, e1, e2, ⟨v', h', hv, hp, hw', hF⟩, hst⟩ | ⟨q, st₀, t, T', L, E, ce, h0, X', hL, e1, e2, ⟨h', hp, hw', hF⟩, hce, hcv, hcl, hst⟩
  · cases hv
    obtain ⟨-, -, k3⟩ := vx_keep (A1 := v_A s0) (free := v_A s0) h0 e1 hS (fun _ _ z => z) (fun _ z => z) hL hF
    obtain ⟨t2, a1, b1⟩ := kk v h' hp p e R s m args below meth c T'.heap _ _ _ ls Q F r1 r2 (by omega) (by omega) fin (by rw [e1]; exact hw') k3 hl T' rfl X'
    rw [← v_pu_eq] at a1
    exact ⟨t2, hst t2 a1, b1⟩
  · obtain ⟨-, -, k3⟩ := vx_keep (A1 := v_A s0) (free := v_A s0) h0 e1 hS (fun _ _ z => z) (fun _ z => z) hL hF
    obtain ⟨hpx, hcov⟩ := hx q E h' hp
    obtain ⟨t2, a1, b1⟩ := fin.2 q E ce h' T'.heap _ (cells + mc') (slots + ms') pc ls st hpx (by rw [e1]; exact hw') k3 (by omega) (by omega) (by rw [e1]; exact hce) hcv hcl hcov T' rfl X'
    exact ⟨t2, hst.trans a1, b1⟩
theorem V_callV {ci k : Nat} {fs : List Value} (G : GC l s0 D a0) (hd : decode M.2.1 pc = .ok (.invokevirtual idx, 3)) (hc : v_cV M.1.cls idx M' as.length) (hk : h[k]? = some (.inr (ci, fs))) (hci : ci < 100 ∧ (vwCl[ci]?).map (fun q => q.1) = some M'.1.cls) (hS' : Sp l s0 D d mc' ms' M' Post' PX' (.ref (s0.heap.size + k) :: as) h) (hst : stk = as.reverse ++ .ref (s0.heap.size + k) :: st) (hw8 : (st.map fun v => v.category).sum ≤ 8)
    (hx : ∀ q E h', PX' q E h' → PX q E h' ∧ ∀ x ∈ M.2.2.2.2, covers x pc = false) (kk : ∀ v h', Post' v h' → V l s0 D (d + 1) mc ms M Post PX (pc + 3) lv (v_pu v st) h') : V l s0 D (d + 1) (mc + mc') (ms + ms') M Post PX pc lv stk h := by
  intro p e R s m args below meth c H locs cells slots ls Q F r1 r2 r3 r4 fin w hS hl
  obtain ⟨hx0, hb, hml, hown, -, -, -, -, hts, hW⟩ := id F
  obtain ⟨⟨hcode, hini, hnm, hloc⟩, hlink, hin, hsel⟩ := hc
  have hK : va_K D vwCl [] s := va_K.moved hW.alike G.1
  obtain ⟨r, hr1, hr2⟩ := Option.map_eq_some_iff.mp hci.2
  have hrecv := va_recv hK (v_P1 w hk hci.1) hr1 (q0 := 0) rfl
  rw [hr2] at hrecv
  exact v_go (vx_runV (n := as.length) ⟨hx0, hb, hml, hown, hts⟩ hS' ⟨callB_of (Ts := gw) as.length hts (gw_good M' hcode) rfl rfl rfl (hts _ hini) (hts _ hlink) hnm ⟨r1, by show 8 + (M'.2.2.1 + 11) + 64 * d ≤ R.locals; omega⟩, hts _ hin, hts _ hsel⟩ ⟨v_blind, hrecv, v_pre w hW⟩ rfl rfl hl.1 hst (lv_room hw8) hd ⟨by omega, by omega⟩) F r1 r2 r3 r4 fin hS hl hx kk
theorem V_callS (hd : decode M.2.1 pc = .ok (.invokestatic idx, 3)) (hc : v_cS M.1.cls idx M' as.length) (hS' : Sp l s0 D d mc' ms' M' Post' PX' as h) (hst : stk = as.reverse ++ st) (hw8 : (st.map fun v => v.category).sum ≤ 8)
    (hx : ∀ q E h', PX' q E h' → PX q E h' ∧ ∀ x ∈ M.2.2.2.2, covers x pc = false) (kk : ∀ v h', Post' v h' → V l s0 D (d + 1) mc ms M Post PX (pc + 3) lv (v_pu v st) h') : V l s0 D (d + 1) (mc + mc') (ms + ms') M Post PX pc lv stk h := by
  intro p e R s m args below meth c H locs cells slots ls Q F r1 r2 r3 r4 fin w hS hl
  obtain ⟨hx0, hb, hml, hown, -, -, -, -, hts, hW⟩ := id F
  obtain ⟨⟨hcode, hini, hnm, hloc⟩, hlink, hstat⟩ := hc
  exact v_go (vx_runS (n := as.length) ⟨hx0, hb, hml, hown, hts⟩ hS' ⟨callB_of (Ts := gw) as.length hts (gw_good M' hcode) rfl rfl rfl (hts _ hini) (hts _ hlink) hnm ⟨r1, by show 8 + (M'.2.2.1 + 11) + 64 * d ≤ R.locals; omega⟩, hts _ hstat⟩ ⟨v_blind, v_pre w hW⟩ rfl rfl hl.1 hst (lv_room hw8) hd ⟨by omega, by omega⟩) F r1 r2 r3 r4 fin hS hl hx kk
theorem v_link {own : String} {s : State} {args : Array Value} {host : String} {y : MethodName} (G : GC l s0 D a0) (hW : s0.WarmedH s.vm) (h : Cond.methodLinkNest own idx y host ∈ lw_tbl) : (Cond.methodLinkNest own idx y host).before args s = true := va_Nw.use rfl (va_Nw.warmM hW (va_Nw.of rfl (G.2.1 _ h)))
theorem V_callI {a : Nat} (G : GC l s0 D a0) (hd : decode M.2.1 pc = .ok (.invokespecial idx, 3)) (hc : v_cI M.1.cls idx M' as.length) (hS' : Sp l s0 D d mc' ms' M' Post' PX' (.ref a :: as) h) (hst : stk = as.reverse ++ .ref a :: st) (hw8 : (st.map fun v => v.category).sum ≤ 8)
    (hx : ∀ q E h', PX' q E h' → PX q E h' ∧ ∀ x ∈ M.2.2.2.2, covers x pc = false) (kk : ∀ v h', Post' v h' → V l s0 D (d + 1) mc ms M Post PX (pc + 3) lv (v_pu v st) h') : V l s0 D (d + 1) (mc + mc') (ms + ms') M Post PX pc lv stk h := by
  intro p e R s m args below meth c H locs cells slots ls Q F r1 r2 r3 r4 fin w hS hl
  obtain ⟨hx0, hb, hml, hown, -, -, -, -, hts, hW⟩ := id F
  obtain ⟨⟨hcode, hini, hnm, hloc⟩, hlink, hin, hy1, hret⟩ := hc
  rw [hret] at hcode
  have hlo : 8 + (M'.2.2.1 + 11) + (v_rm d mc' ms').locals ≤ R.locals := by show 8 + (M'.2.2.1 + 11) + 64 * d ≤ R.locals; omega
  have hpay := pay_in (args := args) (s := s) hts (gw_good M' (by rw [hret]; exact hcode))
  have hback : vx_Back l R p e below s args M'.1 3 8 (PreOf R mc' ms' (v_Pc s0 D (.ref a :: as) h)) (PostOf (v_Qc s0 D Post') mc' ms' (v_A s0)) (vx_Post (v_XC s0 D PX') mc' ms' (v_A s0)) :=
    vx_back (bytes := M'.2.1) (maxL := M'.2.2.1) (ret := none) hS' v_blind rfl rfl r1 hlo hpay (by rw [← hret]; exact List.mem_cons_self) (fun a' U hWU => word_at hWU (Or.inl (by first | rfl | simp [Cond.onTables, Cond.keeps, Cond.steady])) (hts _ hini))
  refine v_go (mc := mc) (ms := ms) (av := (Value.ref a :: as).toArray) ?_ F r1 r2 r3 r4 fin hS hl hx kk
  intro T hT X
  have hlen : ∀ sig, parseMethodDescriptor M'.1.desc = some sig → as.length = sig.parameters.length := fun sig h => by
    have h2 := hnm.2.2
    rw [h] at h2
    exact (Option.some.inj h2).symm
  have hpre : ∀ vm₁, s.WarmedH vm₁ → PreOf R mc' ms' (v_Pc s0 D (.ref a :: as) h) ⟨T.setVm vm₁, locs, cells, slots⟩ (Value.ref a :: as).toArray := fun vm₁ hW₁ => ⟨by show cells + mc' ≤ R.cells; omega, by show slots + ms' ≤ R.slots; omega, v_pre w hW (T.setVm vm₁) hT hW₁⟩
  have hcall : ∃ (mk : MethodId) (vm₁ : Vm), s.WarmedH vm₁ ∧ (Stand p l e R s m args below meth c (T.setVm vm₁) locs cells slots) ∧ (T.setVm vm₁).methodNamed? M'.1 = some mk ∧ ∀ target, (∀ acts, Steps p.tables e below (doInvoke e ((T.setVm vm₁).setTop { F0 m pc ls stk with stack := st }) acts mk (Value.ref a :: as).toArray).1 target) → Steps p.tables e below (T.setTop (F0 m pc ls stk)) target := by
    have hpl : e.platform.magicAccessors = ({} : Platform).magicAccessors := by rw [X.admits.platform]
    rcases hlink with hlink | ⟨host, hlink⟩
    · obtain ⟨mk, methM, cM, kP, vm₁, hnamed, -, -, -, -, -, -, -, hW₁, hstep₁⟩ := Steps.initColdArgs (e := e) X.here hx0 X.warmed hpl hown hy1 ⟨hnm.1, hnm.2.1⟩ (hts _ hlink) (hts _ hin) (hts _ hcode) (f := F0 m pc ls stk) rfl hlen hst (by rw [hb]; exact hd)
      exact ⟨mk, vm₁, (X.noted hW₁).warmed, X.noted hW₁, (X.noted hW₁).named hnamed, fun target ht => hstep₁ _ ht⟩
    · obtain ⟨mk, methM, cM, kP, vm₁, hnamed, -, -, -, -, -, -, -, hW₁, hstep₁⟩ := Steps.initColdArgsNest (e := e) X.here hx0 X.warmed hpl hown hy1 ⟨hnm.1, hnm.2.1⟩ (v_link G hW hlink) (hts _ hin) (hts _ hcode) (f := F0 m pc ls stk) rfl hlen hst (by rw [hb]; exact hd)
      exact ⟨mk, vm₁, (X.noted hW₁).warmed, X.noted hW₁, (X.noted hW₁).named hnamed, fun target ht => hstep₁ _ ht⟩
  obtain ⟨mk, vm₁, hW₁, X₁, hnamed, hstep₁⟩ := hcall
  rcases hback m meth c ⟨T.setVm vm₁, locs, cells, slots⟩ { F0 m pc ls stk with stack := st } (.invokespecial idx) mk (Value.ref a :: as).toArray X₁ rfl (by show ls.size = c.maxLocals; rw [hl.1, hml]) (by rw [hb]; exact hd) (lv_room hw8) hnamed (hpre vm₁ hW₁) with ⟨v, ⟨U', l2, c2, s2⟩, X', ⟨g', mk', t, L, e1, e2, hq, h1, hL, h2, h3⟩, hsteps⟩ | ⟨q, ⟨U', l2, c2, s2⟩, X', ⟨g', mk', t, L, E, ce, e1, e2, hq, hce, hcv, hcl, h1, hL, h2, h3⟩, hsteps⟩
  · dsimp only [Pt.U, Pt.locs, Pt.cells, Pt.slots] at X' e1 e2 h1 h2 h3 hsteps
    subst h1; subst h2; subst h3
    exact Or.inl ⟨v, (T.setVm vm₁).calling g' mk' (Value.ref a :: as).toArray, t, U', L, hT, X', hL, e1, e2, hq, fun target h => hstep₁ _ fun acts => by rw [doInvoke_state]; exact hsteps.trans h⟩
  · dsimp only [Pt.U, Pt.locs, Pt.cells, Pt.slots] at X' e1 e2 h1 h2 h3 hsteps hcl
    subst h1; subst h2; subst h3
    exact Or.inr ⟨q, (T.setVm vm₁).calling g' mk' (Value.ref a :: as).toArray, t, U', L, E, ce, hT, X', hL, e1, e2, hq, hce, hcv, vx_cls hW₁ hcl, hstep₁ _ fun acts => by rw [doInvoke_state]; exact hsteps⟩
theorem V_objInit {a : Nat} (hd : decode M.2.1 pc = .ok (.invokespecial idx, 3)) (hlink : Cond.methodLink M.1.cls idx Lib.objectInit ∈ gw) (hinst : Cond.instanceMethod Lib.objectInit ∈ gw) (hcode : Cond.code Lib.objectInit ⟨#[0xb1]⟩ 1 none ∈ gw) (hw8 : (st.map fun v => v.category).sum ≤ 8) (kk : V l s0 D (d + 1) mc ms M Post PX (pc + 3) lv st h) : V l s0 D (d + 1) mc ms M Post PX pc lv (.ref a :: st) h := by
  intro p e R s m args below meth c H locs cells slots ls Q F r1 r2 r3 r4 fin w hS hl
  obtain ⟨hx0, hb, hml, hown, -, -, -, -, hts, hW⟩ := id F
  exact W.objInit hx0 hb hown (hts _ hlink) (hts _ hinst) (hts _ hcode) rfl (by show ls.size = c.maxLocals; rw [hl.1, hml]) rfl hd (by omega) (by have := lv_room (m := m) (pc := pc) (ls := ls) (rest := .ref a :: st) hw8; omega) (kk p e R s m args below meth c H locs cells slots ls Q F r1 r2 r3 r4 fin w hS hl)
/-- a static table, its load -/
theorem V_gtab {q : String × String × List Int32} (G : GC l s0 D a0) (hd : decode M.2.1 pc = .ok (.getstatic idx, 3)) (hq : q ∈ v_tabs) (hlink : Cond.fieldLink M.1.cls idx q.1 q.2.1 "[I" ∈ gw) (kk : ∀ a : Nat, va_T .int a q.2.2.length (fun j => .int (v_tf q.2.2 j)) (fun z => s0.heap.size ≤ z) s0 s0.heap → V l s0 D d mc ms M Post PX (pc + 3) lv (.ref a :: st) h) : V l s0 D d mc ms M Post PX pc lv st h := by
  intro p e R s m args below meth c H locs cells slots ls Q F r1 r2 r3 r4 fin w hS hl
  obtain ⟨hx0, hb, hml, hown, -, -, -, -, hts, hW⟩ := id F
  obtain ⟨a, hZ, hT⟩ := G.2.2.2 q hq
  obtain ⟨cf, kf, fi, f, a1, cell, h1, h2, h3, h4, h5, h6, h7, h8⟩ := va_Z.moved hW.alike hZ
  have hlt : a1 < s0.heap.size := (Array.getElem?_eq_some_iff.mp h5).1
  exact W.gets hx0 hb hown (hts _ hlink) h1 h2 h3 h4 (by rw [w.2.2 a1 hlt]; exact h5) (fun e => by rw [e] at h6; cases h6) h7 rfl hd (kk a hT p e R s m args below meth c H locs cells slots ls Q F r1 r2 r3 r4 fin w hS hl)
theorem V_tald {a N : Nat} {f : Nat → Int32} {i : Int32} (hd : decode M.2.1 pc = .ok (.iaload, 1)) (hT : va_T .int a N (fun j => .int (f j)) (fun z => s0.heap.size ≤ z) s0 s0.heap) (hi : vp_in i N) (kk : V l s0 D d mc ms M Post PX (pc + 1) lv (.int (f i.toNatClampNeg) :: st) h) : V l s0 D d mc ms M Post PX pc lv (.int i :: .ref a :: st) h := by
  intro p e R s m args below meth c H locs cells slots ls Q F r1 r2 r3 r4 fin w hS hl
  obtain ⟨hx0, hb, hml, hown, -, -, -, -, hts, hW⟩ := id F
  obtain ⟨cell, h1, h2, h3, h4, h5, h6, h7⟩ := hT
  have hlt : a < s0.heap.size := (Array.getElem?_eq_some_iff.mp h1).1
  have hin : i.toNatClampNeg < N := Nat.not_le.mp fun q => hi (Or.inr q)
  exact W.iald hx0 hb (by rw [w.2.2 a hlt]; exact h1) (State.isArrayOf_alike hW.alike h2) h3 (fun q => hi (q.imp id (fun z => Nat.le_trans h4 z))) (h6 _ hin) rfl rfl hd (kk p e R s m args below meth c H locs cells slots ls Q F r1 r2 r3 r4 fin w hS hl)
end VC

