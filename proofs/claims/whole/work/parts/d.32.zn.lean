/-! constructors: the heap is h, and behind it the cells xs that are being made -/
theorem z_at {h xs : AH} {j : Nat} {c : AC} (hj : xs[j]? = some c) : (h ++ xs)[h.length + j]? = some c := by
  rw [List.getElem?_append_right (Nat.le_add_right _ _), Nat.add_sub_cancel_left]; exact hj
theorem z_set (h xs : AH) (j : Nat) (c : AC) : (h ++ xs).set (h.length + j) c = h ++ xs.set j c := by
  rw [List.set_append_right _ _ (Nat.le_add_right _ _), Nat.add_sub_cancel_left]
section ZN
variable {l : Launch} {s0 : State} {D : va_G} {d mc ms mc' ms' : Nat} {M M' : MI} {Post Post' : Option Value → AH → Prop} {PX PX' : Nat → String → AH → Prop} {pc idx ci j k : Nat} {lv : List (Nat × Value)} {st stk as : List Value} {h xs xs' : AH} {a0 : Array Value}
theorem Z_newa {atype : ArrayType} {n : Int32} {N : Nat} {x : vp_A} (G : GC l s0 D a0) (hd : decode M.2.1 pc = .ok (.newarray atype, 2)) (hac : Cond.arrayClass (newarray.typeOf atype) ∈ gw) (hx : ∀ cA : ClassId, vp_cell cA x = arrV cA N (fun _ => defaultValue (newarray.typeOf atype))) (hn : ¬ n < 0) (hN : n.toNatClampNeg = N) (hby : N * componentBytes (newarray.typeOf atype) ≤ 536870912) (hk : xs.length = k) (he : xs ++ [.inl (newarray.typeOf atype, x)] = xs') (kk : V l s0 D d mc ms M Post PX (pc + 2) lv (.ref (s0.heap.size + (h.length + k)) :: st) (h ++ xs')) : V l s0 D d (mc + 1) (ms + N) M Post PX pc lv (.int n :: st) (h ++ xs) :=
  V_newa G hd hac hx hn hN hby (by rw [List.length_append, hk, List.append_assoc, he]; exact kk)
theorem Z_newo {N : Nat} {C : String} {T : u_T} {fs : List Value} (G : GC l s0 D a0) (hd : decode M.2.1 pc = .ok (.new idx, 3)) (hcl : Cond.classLink M.1.cls idx C ∈ gw) (hinst : Cond.instantiable C N ∈ gw) (hini : Cond.initialized C ∈ gw) (hin : ∀ w ∈ u_ws C T N, w ∈ gw) (ty : Nat → FieldType) (hty : ∀ k, k < N → parseFieldDescriptor (T k).2.2.1 = some (ty k)) (hc : vwCl[ci]? = some (C, T, N)) (hfs : ∀ j, j < N → defaultValue (ty j) = vp_V fs j) (hk : xs.length = k) (he : xs ++ [.inr (ci, fs)] = xs') (kk : V l s0 D d mc ms M Post PX (pc + 3) lv (.ref (s0.heap.size + (h.length + k)) :: st) (h ++ xs')) : V l s0 D d (mc + 1) (ms + N) M Post PX pc lv st (h ++ xs) :=
  V_newo G hd hcl hinst hini hin ty hty hc hfs (by rw [List.length_append, hk, List.append_assoc, he]; exact kk)
theorem Z_putf {i : Nat} {fs : List Value} {v : Value} {ty : FieldType} {fi : Bool} (G : GC l s0 D a0) (hd : decode M.2.1 pc = .ok (.putfield idx, 3)) (hf : v_fldP M.1.cls idx ci i ty fi) (hk : xs[j]? = some (.inr (ci, fs))) (hn : narrow ty v = v) (hfit : fits ty v = true) (hjl : i < fs.length) (hini : fi = true → M.1.name = "<init>") (he : xs.set j (.inr (ci, fs.set i v)) = xs') (kk : V l s0 D d mc ms M Post PX (pc + 3) lv st (h ++ xs')) : V l s0 D d mc ms M Post PX pc lv (v :: .ref (s0.heap.size + (h.length + j)) :: st) (h ++ xs) :=
  V_putf G hd hf (z_at hk) hn hfit hjl hini (by rw [z_set, he]; exact kk)
theorem Z_getf {i : Nat} {fs : List Value} {v : Value} (G : GC l s0 D a0) (hd : decode M.2.1 pc = .ok (.getfield idx, 3)) (hf : v_fld M.1.cls idx ci i) (hk : xs[j]? = some (.inr (ci, fs))) (hv : fs[i]? = some v) (kk : V l s0 D d mc ms M Post PX (pc + 3) lv (v :: st) (h ++ xs)) : V l s0 D d mc ms M Post PX pc lv (.ref (s0.heap.size + (h.length + j)) :: st) (h ++ xs) :=
  V_getf G hd hf (z_at hk) hv kk
theorem Z_iast {n : Nat} {f : Nat → Int32} {i : Int32} {x : Int32} (hd : decode M.2.1 pc = .ok (.iastore, 1)) (hk : xs[j]? = some (.inl (.int, n, .inl f))) (hi : vp_in i n) (he : xs.set j (.inl (.int, n, .inl (upd f i.toNatClampNeg x))) = xs') (kk : V l s0 D d mc ms M Post PX (pc + 1) lv st (h ++ xs')) : V l s0 D d mc ms M Post PX pc lv (.int x :: .int i :: .ref (s0.heap.size + (h.length + j)) :: st) (h ++ xs) :=
  V_iast hd (z_at hk) hi (by rw [z_set, he]; exact kk)
theorem Z_callI {ys : AH} {zf : Nat → AH} {c0 : AC} (G : GC l s0 D a0) (hd : decode M.2.1 pc = .ok (.invokespecial idx, 3)) (hc : v_cI M.1.cls idx M' 0) (hxs : xs = ys ++ [c0]) (hk : ys.length = k) (hS' : Sp l s0 D d mc' ms' M' (fun v h' => v = none ∧ h' = (h ++ ys) ++ zf (h ++ ys).length) v_noX [.ref (s0.heap.size + (h ++ ys).length)] ((h ++ ys) ++ [c0])) (hw8 : (st.map fun v => v.category).sum ≤ 8) (he : ys ++ zf (h.length + k) = xs') (kk : V l s0 D (d + 1) mc ms M Post PX (pc + 3) lv st (h ++ xs')) : V l s0 D (d + 1) (mc + mc') (ms + ms') M Post PX pc lv (.ref (s0.heap.size + (h.length + k)) :: st) (h ++ xs) := by
  subst hxs
  rw [← List.append_assoc]
  refine V_callI G hd hc hS' (as := []) (by rw [List.length_append, hk]; rfl) hw8 (fun _ _ _ q => q.elim) ?_
  rintro _ _ ⟨rfl, rfl⟩
  rw [List.append_assoc, List.length_append, hk, he]
  exact kk
theorem Z_start {c0 : AC} (hy : plainFor M.1 = true) (htb : M.2.2.2.2 = []) (hlen : 1 ≤ M.2.2.1) (hV : V l s0 D d mc ms M Post PX 0 [(0, .ref (s0.heap.size + (h.length + 0)))] [] (h ++ [c0])) : Sp l s0 D d mc ms M Post PX [.ref (s0.heap.size + h.length)] (h ++ [c0]) := Sp.of hy htb hlen hV
end ZN

