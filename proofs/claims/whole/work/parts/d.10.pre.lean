theorem bnd_o {α β : Type} {a : α} {f : α → β} {r : β} (h : bnd a f = r) : f a = r := h
theorem bd {α β : Type} {o : Option α} {f : α → Option β} {r : β} (h : o.bind f = some r) : ∃ a, o = some a ∧ f a = some r := Option.bind_eq_some_iff.mp h
theorem gv_out {p : Prop} [Decidable p] {α : Type} {x : Option α} {r : α} (h : (if p then none else x) = some r) : ¬ p ∧ x = some r := by
  by_cases c : p
  · rw [if_pos c] at h; cases h
  · rw [if_neg c] at h; exact ⟨c, h⟩
theorem gv_in {p : Prop} [Decidable p] {α : Type} {x : Option α} {r : α} (h : (if p then x else none) = some r) : p ∧ x = some r := by
  by_cases c : p
  · rw [if_pos c] at h; exact ⟨c, h⟩
  · rw [if_neg c] at h; cases h
theorem nb_n {x : Int32} (h : ¬ ¬ (x = 0 ∨ x = 1)) : narrow .boolean (.int x) = .int x := by
  rcases Decidable.not_not.mp h with rfl | rfl <;> decide
theorem nb_f {x : Int32} (h : ¬ ¬ (x = 0 ∨ x = 1)) : fits .boolean (.int x) = true := by
  rcases Decidable.not_not.mp h with rfl | rfl <;> decide
theorem ts_ne {x v : Int32} {n : Int} (h : ¬ x = v) (hv : v.toInt = n) : x.toInt ≠ n := fun e => h (Int32.toInt_inj.mp (e.trans hv.symm))
theorem v_all_n {lv : List (Nat × Value)} : v_all lv [] := trivial
theorem v_all_c {lv t : List (Nat × Value)} {q : Nat × Value} (h1 : v_get lv q.1 = some q.2) (h2 : v_all lv t) : v_all lv (q :: t) := ⟨h1, h2⟩
theorem V_lv' {l : Launch} {s0 : State} {D : va_G} {d mc ms : Nat} {M : MI} {Post : Option Value → AH → Prop} {PX : Nat → String → AH → Prop} {pc : Nat} {lv lv' : List (Nat × Value)} {st : List Value} {h : AH} (k : V l s0 D d mc ms M Post PX pc lv' st h) (hs : v_all lv lv') : V l s0 D d mc ms M Post PX pc lv st h := V_lv hs k
theorem oN_n {α : Type} {o : Option Nat} {a b x : Option α} (h : o = none) (k : oN o a b = x) : a = x := by subst h; exact k
theorem oN_s {α : Type} {o : Option Nat} {a b x : Option α} {z : Nat} (h : o = some z) (k : oN o a b = x) : b = x := by subst h; exact k
theorem bnd_g {α β : Type} {a : α} {f : α → β} {r : β} (h : bnd a f = r) : ∃ x, a = x ∧ f x = r := ⟨a, rfl, h⟩
section BG
variable {l : Launch} {s0 : State} {D : va_G} {d mc ms : Nat} {M : MI} {Post : Option Value → AH → Prop} {PX : Nat → String → AH → Prop} {pc : Nat} {lv : List (Nat × Value)} {st : List Value} {h : AH} {sh : List Sh} {S S' : St}
theorem V_eqS (e : S = S') (k : V l s0 D d mc ms M Post PX pc lv st (wd s0.heap.size sh S')) : V l s0 D d mc ms M Post PX pc lv st (wd s0.heap.size sh S) := e ▸ k
theorem B_istore_n {i : Fin 4} {x y : Int32} (e : x = y) (hd : decode M.2.1 pc = .ok (.istore_n i, 1)) (hn : (i : Nat) < M.2.2.1) (k : V l s0 D d mc ms M Post PX (pc + 1) (v_st1 lv i (.int y)) st h) : V l s0 D d mc ms M Post PX pc lv (.int x :: st) h := V_istore_n hd hn (by rw [e]; exact k)
theorem B_istore {i : Nat} {x y : Int32} (e : x = y) (hd : decode M.2.1 pc = .ok (.istore i, 2)) (hn : i < M.2.2.1) (k : V l s0 D d mc ms M Post PX (pc + 2) (v_st1 lv i (.int y)) st h) : V l s0 D d mc ms M Post PX pc lv (.int x :: st) h := V_istore hd hn (by rw [e]; exact k)
theorem B_lstore_n {i : Fin 4} {x y : Int64} (e : x = y) (hd : decode M.2.1 pc = .ok (.lstore_n i, 1)) (hn : (i : Nat) + 1 < M.2.2.1) (k : V l s0 D d mc ms M Post PX (pc + 1) (v_st2 lv i (.long y)) st h) : V l s0 D d mc ms M Post PX pc lv (.long x :: st) h := V_lstore_n hd hn (by rw [e]; exact k)
theorem B_lstore {i : Nat} {x y : Int64} (e : x = y) (hd : decode M.2.1 pc = .ok (.lstore i, 2)) (hn : i + 1 < M.2.2.1) (k : V l s0 D d mc ms M Post PX (pc + 2) (v_st2 lv i (.long y)) st h) : V l s0 D d mc ms M Post PX pc lv (.long x :: st) h := V_lstore hd hn (by rw [e]; exact k)
theorem B_iinc {i : Nat} {n : Int} {x v y : Int32} (e : x + v = y) (hd : decode M.2.1 pc = .ok (.iinc i n, 3)) (hv : v_get lv i = some (.int x)) (hn : i < M.2.2.1) (hw : Int32.ofInt n = v) (k : V l s0 D d mc ms M Post PX (pc + 3) (v_st1 lv i (.int y)) st h) : V l s0 D d mc ms M Post PX pc lv st h := V_iinc hd hv hn hw (by rw [e]; exact k)
end BG
abbrev isX0 (sh : List Sh) (t : Nat) : Prop := sh[t]? = some shX0 ∧ sh[t + 1]? = some (.inl (.long, 8)) ∧ sh[t + 2]? = some (.inl (.int, 8)) ∧ sh[t + 3]? = some (.inl (.int, 8)) ∧ sh[t + 4]? = some (.inl (.int, 8)) ∧ sh[t + 5]? = some (.inl (.int, 8)) ∧ sh[t + 6]? = some (.inl (.int, 4)) ∧ sh[t + 7]? = some (.inl (.int, 4)) ∧ sh[t + 8]? = some (.inl (.int, 4)) ∧ sh[t + 9]? = some (.inl (.int, 16))
theorem ckX0_ok {sh : List Sh} {t : Nat} (h : ckX0 sh t = true) : isX0 sh t := by
  have h := ck_ok h
  exact ⟨h.1, h.2.1, h.2.2.1, h.2.2.2.1, h.2.2.2.2.1, h.2.2.2.2.2.1, h.2.2.2.2.2.2.1, h.2.2.2.2.2.2.2.1, h.2.2.2.2.2.2.2.2.1, h.2.2.2.2.2.2.2.2.2.1⟩
abbrev isX1 (sh : List Sh) (t : Nat) : Prop := sh[t]? = some shX1 ∧ sh[t + 1]? = some (.inl (.int, 6)) ∧ sh[t + 2]? = some (.inl (.int, 6))
def ckX1 (sh : List Sh) (t : Nat) : Bool := ck_all [(0, shX1), (1, .inl (.int, 6)), (2, .inl (.int, 6))] sh t
theorem ckX1_ok {sh : List Sh} {t : Nat} (h : ckX1 sh t = true) : isX1 sh t := by
  have h := ck_ok h
  exact ⟨h.1, h.2.1, h.2.2.1⟩
abbrev isX2 (sh : List Sh) (t : Nat) : Prop := sh[t]? = some shX2 ∧ sh[t + 1]? = some (.inl (.int, 25)) ∧ sh[t + 2]? = some (.inl (.long, 12)) ∧ sh[t + 3]? = some (.inl (.long, 12))
def ckX2 (sh : List Sh) (t : Nat) : Bool := ck_all [(0, shX2), (1, .inl (.int, 25)), (2, .inl (.long, 12)), (3, .inl (.long, 12))] sh t
theorem ckX2_ok {sh : List Sh} {t : Nat} (h : ckX2 sh t = true) : isX2 sh t := by
  have h := ck_ok h
  exact ⟨h.1, h.2.1, h.2.2.1, h.2.2.2.1⟩
abbrev isX3 (sh : List Sh) (t : Nat) : Prop := sh[t]? = some shX3 ∧ sh[t + 1]? = some (.inl (.long, 200)) ∧ sh[t + 2]? = some (.inl (.int, 200)) ∧ sh[t + 3]? = some (.inl (.int, 200)) ∧ sh[t + 4]? = some (.inl (.int, 200)) ∧ sh[t + 5]? = some (.inl (.int, 200)) ∧ sh[t + 6]? = some (.inl (.int, 400)) ∧ sh[t + 7]? = some (.inl (.int, 400)) ∧ sh[t + 8]? = some (.inl (.int, 20)) ∧ sh[t + 9]? = some (.inl (.int, 20)) ∧ sh[t + 10]? = some (.inl (.int, 20)) ∧ sh[t + 11]? = some (.inl (.int, 20)) ∧ sh[t + 12]? = some (.inl (.int, 20)) ∧ sh[t + 13]? = some (.inl (.int, 20)) ∧ sh[t + 14]? = some (.inl (.int, 20)) ∧ sh[t + 15]? = some (.inl (.int, 20)) ∧ sh[t + 16]? = some (.inl (.boolean, 20))
theorem ckX3_ok {sh : List Sh} {t : Nat} (h : ckX3 sh t = true) : isX3 sh t := by
  have h := ck_ok h
  exact ⟨h.1, h.2.1, h.2.2.1, h.2.2.2.1, h.2.2.2.2.1, h.2.2.2.2.2.1, h.2.2.2.2.2.2.1, h.2.2.2.2.2.2.2.1, h.2.2.2.2.2.2.2.2.1, h.2.2.2.2.2.2.2.2.2.1, h.2.2.2.2.2.2.2.2.2.2.1, h.2.2.2.2.2.2.2.2.2.2.2.1, h.2.2.2.2.2.2.2.2.2.2.2.2.1, h.2.2.2.2.2.2.2.2.2.2.2.2.2.1, h.2.2.2.2.2.2.2.2.2.2.2.2.2.2.1, h.2.2.2.2.2.2.2.2.2.2.2.2.2.2.2.1, h.2.2.2.2.2.2.2.2.2.2.2.2.2.2.2.2.1⟩
abbrev isX4 (sh : List Sh) (t : Nat) : Prop := sh[t]? = some shX4 ∧ sh[t + 1]? = some (.inl (.int, 12)) ∧ sh[t + 2]? = some (.inl (.int, 12)) ∧ sh[t + 3]? = some (.inl (.int, 12)) ∧ sh[t + 4]? = some (.inl (.int, 12)) ∧ sh[t + 5]? = some (.inl (.int, 12)) ∧ sh[t + 6]? = some (.inl (.int, 3)) ∧ sh[t + 7]? = some (.inl (.int, 3))
def ckX4 (sh : List Sh) (t : Nat) : Bool := ck_all [(0, shX4), (1, .inl (.int, 12)), (2, .inl (.int, 12)), (3, .inl (.int, 12)), (4, .inl (.int, 12)), (5, .inl (.int, 12)), (6, .inl (.int, 3)), (7, .inl (.int, 3))] sh t
theorem ckX4_ok {sh : List Sh} {t : Nat} (h : ckX4 sh t = true) : isX4 sh t := by
  have h := ck_ok h
  exact ⟨h.1, h.2.1, h.2.2.1, h.2.2.2.1, h.2.2.2.2.1, h.2.2.2.2.2.1, h.2.2.2.2.2.2.1, h.2.2.2.2.2.2.2.1⟩
abbrev isX7 (sh : List Sh) (t : Nat) : Prop := sh[t]? = some shX7 ∧ sh[t + 1]? = some (.inl (.long, 4)) ∧ sh[t + 2]? = some (.inl (.long, 4))
theorem ckX7_ok {sh : List Sh} {t : Nat} (h : ckX7 sh t = true) : isX7 sh t := by
  have h := ck_ok h
  exact ⟨h.1, h.2.1, h.2.2.1⟩
abbrev isX10 (sh : List Sh) (t : Nat) : Prop := sh[t]? = some shX10 ∧ sh[t + 1]? = some (.inl (.int, 6)) ∧ sh[t + 2]? = some (.inl (.int, 6)) ∧ sh[t + 3]? = some (.inl (.int, 600)) ∧ sh[t + 4]? = some (.inl (.int, 200)) ∧ sh[t + 5]? = some (.inl (.int, 200)) ∧ sh[t + 6]? = some (.inl (.long, 200))
def ckX10 (sh : List Sh) (t : Nat) : Bool := ck_all [(0, shX10), (1, .inl (.int, 6)), (2, .inl (.int, 6)), (3, .inl (.int, 600)), (4, .inl (.int, 200)), (5, .inl (.int, 200)), (6, .inl (.long, 200))] sh t
theorem ckX10_ok {sh : List Sh} {t : Nat} (h : ckX10 sh t = true) : isX10 sh t := by
  have h := ck_ok h
  exact ⟨h.1, h.2.1, h.2.2.1, h.2.2.2.1, h.2.2.2.2.1, h.2.2.2.2.2.1, h.2.2.2.2.2.2.1⟩
abbrev isX11 (sh : List Sh) (t : Nat) : Prop := sh[t]? = some shX11
theorem ckX11_ok {sh : List Sh} {t : Nat} (h : ckX11 sh t = true) : isX11 sh t := by
  have h := ck_ok h
  exact h.1
abbrev isX5 (sh : List Sh) (t : Nat) : Prop := sh[t]? = some shX5 ∧ isX4 sh (t + 1) ∧ sh[t + 9]? = some (.inl (.int, 144))
abbrev isX6 (sh : List Sh) (t : Nat) : Prop := sh[t]? = some shX6 ∧ sh[t + 1]? = some (.inl (.byte, 400))
def ckX6 (sh : List Sh) (t : Nat) : Bool := ck_all [(0, shX6), (1, .inl (.byte, 400))] sh t
theorem ckX6_ok {sh : List Sh} {t : Nat} (h : ckX6 sh t = true) : isX6 sh t := by
  have h := ck_ok h
  exact ⟨h.1, h.2.1⟩
abbrev isX8 (sh : List Sh) (t : Nat) : Prop := sh[t]? = some shX8 ∧ isX6 sh (t + 1) ∧ isX5 sh (t + 13) ∧ isX2 sh (t + 40) ∧ isX1 sh (t + 44) ∧ isX1 sh (t + 47) ∧ isX1 sh (t + 50) ∧ isX7 sh (t + 53) ∧ isX7 sh (t + 56) ∧ sh[t + 59]? = some (.inl (.int, 3)) ∧ sh[t + 60]? = some (.inl (.int, 6))
abbrev isX12 (sh : List Sh) (t : Nat) : Prop := sh[t]? = some shX12 ∧ isX11 sh (t + 12) ∧ sh[t + 13]? = some (.inl (.byte, 400)) ∧ sh[t + 14]? = some (.inl (.int, 6)) ∧ sh[t + 15]? = some (.inl (.int, 6)) ∧ sh[t + 16]? = some (.inl (.int, 3)) ∧ isX10 sh (t + 17) ∧ isX10 sh (t + 24) ∧ isX10 sh (t + 31) ∧ sh[t + 38]? = some (.inl (.int, 12)) ∧ sh[t + 39]? = some (.inl (.int, 12)) ∧ sh[t + 40]? = some (.inl (.int, 12)) ∧ sh[t + 41]? = some (.inl (.int, 3)) ∧ sh[t + 42]? = some (.inl (.int, 9)) ∧ sh[t + 43]? = some (.inl (.long, 10395)) ∧ sh[t + 44]? = some (.inl (.int, 10395)) ∧ sh[t + 45]? = some (.inl (.int, 10395)) ∧ sh[t + 46]? = some (.inl (.int, 12)) ∧ sh[t + 47]? = some (.inl (.int, 12)) ∧ sh[t + 48]? = some (.inl (.int, 3)) ∧ sh[t + 49]? = some (.inl (.int, 6)) ∧ sh[t + 50]? = some (.inl (.int, 16)) ∧ sh[t + 51]? = some (.inl (.int, 16)) ∧ sh[t + 52]? = some (.inl (.int, 16)) ∧ sh[t + 53]? = some (.inl (.int, 16)) ∧ sh[t + 54]? = some (.inl (.int, 16)) ∧ sh[t + 55]? = some (.inl (.int, 16)) ∧ sh[t + 56]? = some (.inl (.int, 16)) ∧ sh[t + 57]? = some (.inl (.int, 3)) ∧ sh[t + 58]? = some (.inl (.long, 800)) ∧ sh[t + 59]? = some (.inl (.long, 800)) ∧ sh[t + 60]? = some (.inl (.int, 800)) ∧ sh[t + 61]? = some (.inl (.int, 4)) ∧ sh[t + 62]? = some (.inl (.int, 4)) ∧ sh[t + 63]? = some (.inl (.long, 2))
theorem v_tb0 : ("DrawnWays$Layout", "SWAPS", v_T0) ∈ v_tabs := List.mem_of_getElem? (i := 0) rfl
theorem zX4_108 : Cond.fieldLink RX4 108 "DrawnWays$Layout" "SWAPS" "[I" ∈ gw := gw_t 695 (by decide +kernel) rfl
theorem v_tb1 : ("DrawnWays$ExactSum", "PRIMES", v_T1) ∈ v_tabs := List.mem_of_getElem? (i := 1) rfl
theorem zX2_20 : Cond.fieldLink RX2 20 "DrawnWays$ExactSum" "PRIMES" "[I" ∈ gw := gw_t 893 (by decide +kernel) rfl
theorem v_tb2 : ("DrawnWays$Reckoning", "PRIMES", v_T2) ∈ v_tabs := List.mem_of_getElem? (i := 2) rfl
theorem zX7_78 : Cond.fieldLink RX7 78 "DrawnWays$Reckoning" "PRIMES" "[I" ∈ gw := gw_t 1009 (by decide +kernel) rfl

