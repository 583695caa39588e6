/-! PARTED: the class reckons the parts. -/
section CTx
variable {sh : List Sh} {f : Nat} {S T : St} {p : PC} {q : Option Nat} {w : Nat} {X : NS}
/-- one part -/
theorem c_part {E : En} {a e v : Nat} (hf : 1000 ≤ f) (h : inv0 sh S p q w X) (N : cN S T p) (hE : 1 ≤ E.1 ∧ E.1 ≤ 6) (hk : ∀ i, i < E.1 → E.2.1 i < bK (xB X)) (hn : nuB E.2.2 E.1) (hv : 1 ≤ v ∧ v ≤ 3) (ae : a = 53 ∧ e = 47 ∨ a = 56 ∧ e = 50) (en : enA T e E.1 E.2.1 E.2.2) : ∃ U, F_X5_fill sh f T 13 p.1 e (I v) = some (if (eD (xB X) E v).length ≤ 200 then 1 else 0, U) ∧ jnC U (fun _ _ => 0) ∧ (∀ x, (x < 14 ∨ 22 < x) → (x < p.2.2.2.1 ∨ p.2.2.2.1 + 16 < x) → Sm T U x) ∧ ((eD (xB X) E v).length ≤ 200 → ∃ U1 U2, F_X7_clear sh f U a = some U1 ∧ (∀ x, x ≠ a → x ≠ a + 1 → Sm U U1 x) ∧ F_X7_addWorths sh f U1 a p.2.2.2.1 p.1 e 59 3 0 (-1) = some U2 ∧ (∀ k, k < 4 → sL U2 (a + 1) k = J (eR (xB X) E (xL X) v k : Nat)) ∧ sI U2 a 2 = eP (xB X) E v ∧ sI U2 a 3 = b2I (eL (xB X) E v) ∧ ∀ x, x ≠ a → x ≠ a + 1 → x ≠ a + 2 → Sm U1 U2 x) := by
  have pt := h.2.1
  have pd := h.2.2.1
  have gG := pd.2.1
  have gA := pd.2.2
  have gB := pd.1
  have bo := h.2.2.2.2.2.2.1
  have lt := h.2.2.2.2.2.2.2.2.1
  have ST : ∀ x, (x < 14 ∨ 40 ≤ x ∧ x ≤ 46 ∨ 59 ≤ x ∧ x ≤ 70) → Sm S T x := fun x hx => N.1 x (by omega) (by omega) (by omega) (by omega)
  obtain ⟨U, t0, t1, t2, t3, t4⟩ := c_fill (sh := sh) (f := f) (S := T) (g := p.2.2.2.1) (b := p.1) (e := e) (n := E.1) (V := v) (B := xB X) (ek := E.2.1) hf (bkC_sm bo.2.1 (fun x a b => ST x (by omega))) bo.1 (by omega) (by omega) hE en.1 (fun i hi => ⟨hk i hi, (en.2 i hi).1⟩) hv N.2 (by omega) (((ST 13 (by omega)).R 2).trans pt.2.2.2.1) (sh3 h.1 (by omega))
  refine ⟨U, t0, t1, t2, fun le => ?_⟩
  obtain ⟨U1, u0, u1, u2, u3, u4, u5⟩ := c_clr (sh := sh) (f := f) (S := U) (a := a) hf
  have SU : ∀ x, (x < 14 ∨ 40 ≤ x ∧ x ≤ 46 ∨ 59 ≤ x ∧ x ≤ 70) → Sm S U1 x := fun x hx => ((ST x hx).trans (t2 x (by omega) (by omega))).trans (u4 x (by omega) (by omega))
  have TU : ∀ x, e ≤ x → x ≤ e + 2 → Sm T U1 x := fun x a b => (t2 x (by omega) (by omega)).trans (u4 x (by omega) (by omega))
  obtain ⟨W, w0, w1, w2, w3, w4, w5⟩ := c_adW (sh := sh) (f := f) (S := U1) (a := a) (g := p.2.2.2.1) (b := p.1) (e := e) (V := v) (n := E.1) (B := xB X) (nu := E.2.2) (le := xL X) (DL := eD (xB X) E v) (sd := 0) (kd := 0) (ra := fun _ => 0) (P := -1) (lb := false) hf le (((u4 p.2.2.2.1 (by omega) (by omega)).I 17).trans (t3.1 le).2.1) (fun i d hd => by
    have q := enW_fl hv.2 le t3 (t4 le) hd
    exact ⟨enW_sm q.1 (fun x a b => u4 x (by omega) (by omega)), q.2⟩) (bkC_sm bo.2.1 (fun x a b => SU x (by omega))) (((TU e (by omega) (by omega)).I 2).trans en.1) hn (fun i hi => ((TU (e + 2) (by omega) (by omega)).A i).trans (en.2 i hi).2) (fun l hl => ⟨(lt l hl).1, (lt l hl).2.1, ((SU 59 (by omega)).A l).trans (lt l hl).2.2.1⟩) (fun x hx => by omega) (by omega) (by omega) (fun k hk => by have := pQ_b k; omega) u1 u2 u3
  have w0' : F_X7_addWorths sh f U1 a p.2.2.2.1 p.1 e 59 3 0 (-1) = some W := (aW_kd (-1) (I (0 : Nat))).trans w0
  exact ⟨U1, W, u0, u4, w0', w1, w2, w3, w4⟩
noncomputable def tCd (B : Bk) (N F : En) (le : Nat → Int) (o d v : Nat) (b : Bool) (acc : Nat → Nat) (P : Int32) : Int32 := if rmD B N F o d v = true then fCd (llD B N F o d v b) (fun k => rrD B N F le o k d v (acc k)) (ppD B N F o d v P) else 3
theorem c_L74 {N F : En} {o : Nat} {a1 a2 : Int32} (hf : 1000 ≤ f) (h : inv0 sh S p q w X) (hN : 1 ≤ N.1 ∧ N.1 ≤ 6) (hF : 1 ≤ F.1 ∧ F.1 ≤ 6) (kN : ∀ i, i < N.1 → N.2.1 i < bK (xB X)) (kF : ∀ i, i < F.1 → F.2.1 i < bK (xB X)) (uN : nuB N.2.2 N.1) (uF : nuB F.2.2 F.1) (ho : o ≤ 3) : ∀ (d v nf : Nat) (T : St) (b : Bool) (acc : Nat → Nat) (P : Int32), v + d = o → 1 ≤ v → d < nf → cN S T p → enA T 47 N.1 N.2.1 N.2.2 → enA T 50 F.1 F.2.1 F.2.2 → (∀ k, k < 4 → acc k < pQ k) → (∀ k, k < 4 → sL T (p.2.2.2.2.2 + 1) k = J (acc k : Nat)) → sI T p.2.2.2.2.2 2 = P → sI T p.2.2.2.2.2 3 = b2I b → ∃ S1, F_X8_reckonParts_L74 sh f 0 a1 a2 (I o) nf T (I v) = some (tCd (xB X) N F (xL X) o d v b acc P, S1) ∧ cAns S S1 p (tCd (xB X) N F (xL X) o d v b acc P) (fun k => rrD (xB X) N F (xL X) o k d v (acc k)) (ppD (xB X) N F o d v P) := by
  have pt := h.2.1
  have pd := h.2.2.1
  have gG := pd.2.1
  have gA := pd.2.2
  have gB := pd.1
  have ca : ckX7 sh p.2.2.2.2.2 = true := sh7 h.1 (by omega)
  have cb : ckX0 sh p.1 = true := pc0 h
  have cg : ckX3 sh p.2.2.2.1 = true := sh3 h.1 (by omega)
  intro d
  induction d with
  | zero =>
    intro v nf T b acc P h1 hv h2 hT n1 f1 ha g1 g2 g3
    obtain ⟨nf, rfl⟩ : ∃ e, nf = e + 1 := ⟨nf - 1, by omega⟩
    have : v = o := by omega
    subst this
    obtain ⟨Z, z0, z1⟩ := c_fin (sh := sh) (f := f) (S := S) (T := T) (r := acc) hf h hT ha g1 g2 g3
    rw [F_X8_reckonParts_L74, if_pos (by rw [I_leN (by omega) (by omega)]; omega), z0, Option.bind_some]
    exact ⟨Z, rfl, z1⟩
  | succ d ih =>
    intro v nf T b acc P h1 hv h2 hT n1 f1 ha g1 g2 g3
    obtain ⟨nf, rfl⟩ : ∃ e, nf = e + 1 := ⟨nf - 1, by omega⟩
    have r10 : ∀ W, cN S W p → sR W 0 10 = some p.1 := fun W hW => ((hW.1 0 (by omega) (by omega) (by omega) (by omega)).R 10).trans pt.1
    have r132 : ∀ W, cN S W p → sR W 13 2 = some p.2.2.2.1 := fun W hW => ((hW.1 13 (by omega) (by omega) (by omega) (by omega)).R 2).trans pt.2.2.2.1
    have r013 : ∀ W, cN S W p → sR W 0 13 = some p.2.2.2.2.2 := fun W hW => ((hW.1 0 (by omega) (by omega) (by omega) (by omega)).R 13).trans pt.2.2.2.2.2
    obtain ⟨A, a0, aj, aF, aG⟩ := c_part (sh := sh) (f := f) (E := N) (a := 53) (e := 47) (v := v) hf h hT hN kN uN (by omega) (Or.inl ⟨rfl, rfl⟩) n1
    have NA : cN S A p := ⟨fun x a b c d => (hT.1 x a b c d).trans (aF x a b), aj⟩
    have a0' : F_X5_fill sh f T (0 + 13) p.1 (0 + 47) (I v) = _ := a0
    rw [F_X8_reckonParts_L74, if_neg (by rw [I_leN (by omega) (by omega)]; omega), r10 T hT, Option.bind_some, if_pos cb, a0', Option.bind_some]
    have i10 : ¬ (1 : Int32) = 0 := by decide
    by_cases l1 : (eD (xB X) N v).length ≤ 200
    · rw [if_pos l1, if_neg i10]
      obtain ⟨A1, A2, b0, b1, b2, b3, b4, b5, b6⟩ := aG l1
      have NA1 : cN S A1 p := ⟨fun x a b c d => (NA.1 x a b c d).trans (b1 x (by omega) (by omega)), jnC_sm NA.2 (b1 22 (by omega) (by omega))⟩
      have NA2 : cN S A2 p := ⟨fun x a b c d => (NA1.1 x a b c d).trans (b6 x (by omega) (by omega) (by omega)), jnC_sm NA1.2 (b6 22 (by omega) (by omega) (by omega))⟩
      have TA : ∀ x, 40 ≤ x → x ≠ 53 → x ≠ 54 → x ≠ 55 → (x < p.2.2.2.1 ∨ p.2.2.2.1 + 16 < x) → Sm T A2 x := fun x a b c d e => ((aF x (by omega) e).trans (b1 x (by omega) (by omega))).trans (b6 x (by omega) (by omega) (by omega))
      have b0' : F_X7_clear sh f A (0 + 53) = some A1 := b0
      have b2' : F_X7_addWorths sh f A1 (0 + 53) p.2.2.2.1 p.1 (0 + 47) (0 + 59) 3 0 (-1) = some A2 := b2
      obtain ⟨C, c0, cj, cF, cG⟩ := c_part (sh := sh) (f := f) (E := F) (a := 56) (e := 50) (v := o - v) hf h NA2 hF kF uF (by omega) (Or.inr ⟨rfl, rfl⟩) (enA_sm f1 (fun x a b => TA x (by omega) (by omega) (by omega) (by omega) (by omega)))
      have NC : cN S C p := ⟨fun x a b c d => (NA2.1 x a b c d).trans (cF x a b), cj⟩
      have c0' : F_X5_fill sh f A2 (0 + 13) p.1 (0 + 50) (I o - I v) = some (if (eD (xB X) F (o - v)).length ≤ 200 then 1 else 0, C) := by
        rw [I_sb (show v ≤ o by omega)]
        exact c0
      rw [b0', Option.bind_some]
      have r132' : sR A1 (0 + 13) 2 = some p.2.2.2.1 := r132 A1 NA1
      rw [r132', Option.bind_some, if_pos cg, r10 A1 NA1, Option.bind_some, if_pos cb, b2', Option.bind_some, r10 A2 NA2, Option.bind_some, if_pos cb, c0', Option.bind_some]
      by_cases l2 : (eD (xB X) F (o - v)).length ≤ 200
      · rw [if_pos l2, if_neg i10]
        obtain ⟨C1, C2, d0, d1, d2, d3, d4, d5, d6⟩ := cG l2
        have NC1 : cN S C1 p := ⟨fun x a b c d => (NC.1 x a b c d).trans (d1 x (by omega) (by omega)), jnC_sm NC.2 (d1 22 (by omega) (by omega))⟩
        have NC2 : cN S C2 p := ⟨fun x a b c d => (NC1.1 x a b c d).trans (d6 x (by omega) (by omega) (by omega)), jnC_sm NC1.2 (d6 22 (by omega) (by omega) (by omega))⟩
        have AC : ∀ x, 40 ≤ x → x ≠ 56 → x ≠ 57 → x ≠ 58 → (x < p.2.2.2.1 ∨ p.2.2.2.1 + 16 < x) → Sm A2 C2 x := fun x a b c d e => ((cF x (by omega) e).trans (d1 x (by omega) (by omega))).trans (d6 x (by omega) (by omega) (by omega))
        have TC : ∀ x, 40 ≤ x → ¬ (53 ≤ x ∧ x ≤ 58) → (x < p.2.2.2.1 ∨ p.2.2.2.1 + 16 < x) → Sm T C2 x := fun x a b c => (TA x a (by omega) (by omega) (by omega) c).trans (AC x a (by omega) (by omega) (by omega) c)
        have d0' : F_X7_clear sh f C (0 + 56) = some C1 := d0
        have d2' : F_X7_addWorths sh f C1 (0 + 56) p.2.2.2.1 p.1 (0 + 50) (0 + 59) 3 0 (-1) = some C2 := d2
        have A53 : Sm A2 C2 53 := AC 53 (by omega) (by omega) (by omega) (by omega) (by omega)
        have A54 : Sm A2 C2 54 := AC 54 (by omega) (by omega) (by omega) (by omega) (by omega)
        have Ta : Sm T C2 p.2.2.2.2.2 := TC _ (by omega) (by omega) (by omega)
        have Ta1 : Sm T C2 (p.2.2.2.2.2 + 1) := TC _ (by omega) (by omega) (by omega)
        obtain ⟨Z, z0, z1, z2, z3, z4, z5⟩ := c_apr (sh := sh) (f := f) (S := C2) (a := p.2.2.2.2.2) (b := 53) (c := 56) (ra := acc) (r1 := eR (xB X) N (xL X) v) (r2 := eR (xB X) F (xL X) (o - v)) (P := P) (P1 := eP (xB X) N v) (P2 := eP (xB X) F (o - v)) (l := b) (l1 := eL (xB X) N v) (l2 := eL (xB X) F (o - v)) hf (by omega) (fun k hk => ⟨ha k hk, rsL_lt _ _ (by have := pQ_b k; omega), rsL_lt _ _ (by have := pQ_b k; omega)⟩) (fun k hk => by rw [Ta1.L]; exact g1 k hk) (fun k hk => (A54.L k).trans (b3 k hk)) d3 ((Ta.I 2).trans g2) ((A53.I 2).trans b4) d4 ((Ta.I 3).trans g3) ((A53.I 3).trans b5) d5
        have z0' : F_X7_addProduct sh f C2 p.2.2.2.2.2 (0 + 53) (0 + 56) = some Z := z0
        have NZ : cN S Z p := ⟨fun x a b c d => (NC2.1 x a b c d).trans (z4 x (by omega) (by omega)), jnC_sm NC2.2 (z4 22 (by omega) (by omega))⟩
        have r132'' : sR C1 (0 + 13) 2 = some p.2.2.2.1 := r132 C1 NC1
        rw [d0', Option.bind_some, r132'', Option.bind_some, if_pos cg, r10 C1 NC1, Option.bind_some, if_pos cb, d2', Option.bind_some, r013 C2 NC2, Option.bind_some, if_pos ca, z0', Option.bind_some, bnd_e, I_suc]
        have e : tCd (xB X) N F (xL X) o (d + 1) v b acc P = tCd (xB X) N F (xL X) o d (v + 1) (b || eL (xB X) N v || eL (xB X) F (o - v)) (fun k => (acc k + eR (xB X) N (xL X) v k * eR (xB X) F (xL X) (o - v) k) % pQ k) (if P = -1 then (if eP (xB X) N v = -1 then eP (xB X) F (o - v) else eP (xB X) N v) else P) := by
          unfold tCd
          rw [rmD, decide_eq_true l1, decide_eq_true l2, Bool.true_and, Bool.true_and]
          rfl
        rw [e]
        exact ih (v + 1) nf Z _ _ _ (by omega) (by omega) (by omega) NZ (enA_sm n1 (fun x a b => (TC x (by omega) (by omega) (by omega)).trans (z4 x (by omega) (by omega)))) (enA_sm f1 (fun x a b => (TC x (by omega) (by omega) (by omega)).trans (z4 x (by omega) (by omega)))) (fun k hk => Nat.mod_lt _ (by have := pQ_b k; omega)) z1 z2 z3
      · have e : tCd (xB X) N F (xL X) o (d + 1) v b acc P = 3 := by
          unfold tCd
          rw [if_neg]
          rw [rmD, decide_eq_false l2, Bool.and_false, Bool.false_and]
          decide
        rw [if_neg l2, if_pos rfl, e]
        exact ⟨C, rfl, c_no pd NC (by decide) (by decide)⟩
    · have e : tCd (xB X) N F (xL X) o (d + 1) v b acc P = 3 := by
        unfold tCd
        rw [if_neg]
        rw [rmD, decide_eq_false l1, Bool.false_and, Bool.false_and]
        decide
      rw [if_neg l1, if_pos rfl, e]
      exact ⟨A, rfl, c_no pd NA (by decide) (by decide)⟩
end CTx
