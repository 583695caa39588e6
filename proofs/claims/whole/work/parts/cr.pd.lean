/-! PARTED: the reference as a whole behind its refusals. -/
section CRx
variable {sh : List Sh} {f : Nat} {S : St} {q : Nat} {B : Bk} {N F : En} {le : Nat → Int}
theorem rmD_s {o d v : Nat} (h : rmD B N F o (d + 1) v = true) : (eD B N v).length ≤ 200 ∧ (eD B F (o - v)).length ≤ 200 ∧ rmD B N F o d (v + 1) = true := by
  rw [rmD, Bool.and_eq_true, Bool.and_eq_true, decide_eq_true_iff, decide_eq_true_iff] at h
  exact ⟨h.1.1, h.1.2, h.2⟩
theorem I_sb {o v : Nat} (h : v ≤ o) : I (o : Int) - I (v : Int) = I ((o - v : Nat) : Int) := by
  rw [I_sub]
  congr 1
  omega
/-- both lists of a way to divide -/
theorem r_2fl {o v : Nat} (hf : 20000 ≤ f) (c : rCx sh S q B N F le) {T : St} (h : rP S T N F) (hv : 1 ≤ v ∧ v < o) (ho : o ≤ 3) : ∃ U, F_X12_fills sh f T 94 (94 + 24) (I v) = some (if (eD B N v).length ≤ 200 then 1 else 0, U) ∧ rP S U N F ∧ ∃ W, F_X12_fills sh f U 94 (94 + 31) (I o - I v) = some (if (eD B F (o - v)).length ≤ 200 then 1 else 0, W) ∧ rP S W N F ∧ Sm T W 155 ∧ ((eD B N v).length ≤ 200 → rW sh W 118 q B N.1 N.2.1 N.2.2 v) ∧ ((eD B F (o - v)).length ≤ 200 → rW sh W 125 q B F.1 F.2.1 F.2.2 (o - v)) := by
  obtain ⟨U, u0, u1, u2, u3⟩ := r_fN (sh := sh) (f := f) (v := v) hf c h (by omega)
  obtain ⟨W, w0, w1, w2, w3, w4⟩ := r_fF (sh := sh) (f := f) (v := o - v) hf c u1 (by omega)
  rw [← I_sb (show v ≤ o by omega)] at w0
  exact ⟨U, u0, u1, W, w0, w1, u2.trans w2, fun l => w4 v (u3 l), w3⟩
noncomputable def lCd (lb : Bool) (r : Nat → Nat) : Int32 := if lb = false ∧ fnd r = true then 0 else 6
theorem r_314 {o : Nat} {P : Int32} (hf : 20000 ≤ f) (c : rCx sh S q B N F le) (ho : o ≤ 3) (a1 a2 : Int32) : ∀ (d v nf : Nat) (T : St) (b : Bool) (acc : Nat → Nat), v + d = o → 1 ≤ v → d < nf → rP S T N F → rmD B N F o d v = true → (∀ j, j < 4 → acc j < pQ j) → (b = false → ∀ j, j < 4 → sA T 155 j = I (acc j : Nat)) → ∃ U, F_X12_parted_L314 sh f 94 a1 a2 (I o) nf T (b2I b) (I v) = some (if lCd (llD B N F o d v b) (fun k => rrD B N F le o k d v (acc k)) = 0 then 1 else 0, U) ∧ rAns S U (lCd (llD B N F o d v b) (fun k => rrD B N F le o k d v (acc k))) (fun k => rrD B N F le o k d v (acc k)) P := by
  intro d
  induction d with
  | zero =>
    intro v nf T b acc h1 hv h2 hP rm ha g
    obtain ⟨nf, rfl⟩ : ∃ e, nf = e + 1 := ⟨nf - 1, by omega⟩
    have : v = o := by omega
    subst this
    have key : ∃ U, F_X12_parted_L314 sh f 94 a1 a2 (I v) (nf + 1) T (b2I b) (I v) = some (if lCd b acc = 0 then 1 else 0, U) ∧ rAns S U (lCd b acc) acc P := by
      rw [F_X12_parted_L314, if_pos (by rw [I_leN (by omega) (by omega)]; omega)]
      simp only [b2I_0]
      cases b with
      | true =>
        rw [if_neg (show ¬ true = false by decide), show lCd true acc = 6 from if_neg (fun x => absurd x.1 (by decide)), if_neg (show ¬ (6 : Int32) = 0 by decide)]
        exact r_den' hP.1 (by decide)
      | false =>
        obtain ⟨Z, z0, z1⟩ := r_fnd' (sh := sh) (f := f) (P := P) (r := acc) (by omega) hP.1 ha (g rfl)
        rw [if_pos rfl, z0]
        by_cases fb : fnd acc = true
        · rw [if_pos fb] at z1
          rw [if_pos fb, show lCd false acc = 0 from if_pos ⟨rfl, fb⟩, if_pos (show (0 : Int32) = 0 from rfl)]
          exact ⟨Z, rfl, z1⟩
        · rw [if_neg fb] at z1
          rw [if_neg fb, show lCd false acc = 6 from if_neg (fun x => fb x.2), if_neg (show ¬ (6 : Int32) = 0 by decide)]
          exact ⟨Z, rfl, z1⟩
    exact key
  | succ d ih =>
    intro v nf T b acc h1 hv h2 hP rm ha g
    obtain ⟨nf, rfl⟩ : ∃ e, nf = e + 1 := ⟨nf - 1, by omega⟩
    obtain ⟨rm1, rm2, rm3⟩ := rmD_s rm
    obtain ⟨U, u0, u1, W, w0, w1, w2, w3, w4⟩ := r_2fl (sh := sh) (f := f) (o := o) (v := v) hf c hP ⟨hv, by omega⟩ ho
    rw [if_pos rm1] at u0
    rw [if_pos rm2] at w0
    obtain ⟨X, x0, x1, x2⟩ := r_358 (sh := sh) (f := f) (v := v) (v2 := o - v) (o := o) (b := b) (acc := acc) (by omega) c a1 a2 (F_X12_parted_L314 sh f 94 a1 a2 (I o) nf) ha 4 0 f W b (by omega) (by omega) w1 (w3 rm1) (w4 rm2) (by simp) (fun z j hj => by rw [if_neg (by omega), w2.A]; exact g z j hj)
    have x0' : F_X12_parted_L358 sh f 94 a1 a2 (I o) (F_X12_parted_L314 sh f 94 a1 a2 (I o) nf) f W (b2I b) (I v) 0 = _ := x0
    rw [F_X12_parted_L314, if_neg (by rw [I_leN (by omega) (by omega)]; omega), u0, Option.bind_some, if_neg (show ¬ (1 : Int32) = 0 by decide), w0, Option.bind_some, if_neg (show ¬ (1 : Int32) = 0 by decide), x0']
    exact ih (v + 1) nf X _ (fun k => (acc k + eR B N le v k * eR B F le (o - v) k) % pQ k) (by omega) (by omega) (by omega) x1 rm3 (fun j hj => Nat.mod_lt _ (by have := pQ_b j; omega)) x2
theorem r_288 {o : Nat} (hf : 1000 ≤ f) (a1 a2 : Int32) : ∀ (d k nf : Nat) (T : St), k + d = 4 → d < nf → (∀ x, x ≠ 155 → Sm S T x) → (∀ j, j < k → sA T 155 j = I (0 : Nat)) → ∃ T', F_X12_parted_L288 sh f 94 a1 a2 (I o) nf T (I k) = F_X12_parted_L314 sh f 94 a1 a2 (I o) f T' 0 1 ∧ (∀ x, x ≠ 155 → Sm S T' x) ∧ ∀ j, j < 4 → sA T' 155 j = I (0 : Nat) := by
  intro d
  induction d with
  | zero =>
    intro k nf T h1 h2 F g
    obtain ⟨nf, rfl⟩ : ∃ e, nf = e + 1 := ⟨nf - 1, by omega⟩
    have : k = 4 := by omega
    subst this
    rw [F_X12_parted_L288, if_pos (by decide)]
    exact ⟨T, rfl, F, g⟩
  | succ d ih =>
    intro k nf T h1 h2 F g
    obtain ⟨nf, rfl⟩ : ∃ e, nf = e + 1 := ⟨nf - 1, by omega⟩
    have nb : ¬ (I (k : Int) < 0 ∨ 4 ≤ k) := I_bnd (show k < 4 by omega) (by omega)
    rw [F_X12_parted_L288, if_neg (by rw [show (4 : Int32) = I ((4 : Nat) : Int) from rfl, I_leN (by omega) (by omega)]; omega), I_clN (show k < _ by omega), if_neg nb, bnd_e, bnd_e, I_suc]
    refine ih (k + 1) nf _ (by omega) (by omega) (fun x hx => (F x hx).uA hx) (fun j hj => ?_)
    rw [sA_uA, if_pos rfl, up1_if]
    by_cases y : j = k
    · rw [if_pos y]; rfl
    · rw [if_neg y]; exact g j (by omega)
theorem r_207 {o : Nat} (hf : 20000 ≤ f) (c : rCx sh S q B N F le) (ho : 2 ≤ o ∧ o ≤ 3) (rmA : rmD B N F o (o - 1) 1 = true) (a1 a2 : Int32) : ∀ (d v nf : Nat) (T : St), v + d = o → 1 ≤ v → d < nf → rP S T N F → rmD B N F o d v = true → ∃ U, F_X12_parted_L207 sh f 94 a1 a2 (I o) nf T (I v) = some (if fCd (llD B N F o (o - 1) 1 false) (fun k => rrD B N F le o k (o - 1) 1 0) (ppD B N F o d v (-1)) = 0 then 1 else 0, U) ∧ rAns S U (fCd (llD B N F o (o - 1) 1 false) (fun k => rrD B N F le o k (o - 1) 1 0) (ppD B N F o d v (-1))) (fun k => rrD B N F le o k (o - 1) 1 0) (ppD B N F o d v (-1)) := by
  have c' := c
  obtain ⟨c1, c2, c3, c4, c5, c6, c7, c8, c9, c10, c11, c12⟩ := c'
  intro d
  induction d with
  | zero =>
    intro v nf T h1 hv h2 hP rm
    obtain ⟨nf, rfl⟩ : ∃ e, nf = e + 1 := ⟨nf - 1, by omega⟩
    obtain ⟨U, u0, u1, u2⟩ := r_288 (sh := sh) (f := f) (S := T) (o := o) (by omega) a1 a2 4 0 f T (by omega) (by omega) (fun _ _ => Sm.rfl) (fun j hj => by omega)
    have u0' : F_X12_parted_L288 sh f 94 a1 a2 (I o) f T 0 = _ := u0
    have PU : rP S U N F := ⟨hP.1.trans (rN_sm (fun x hx => u1 x (by omega))), enA_sm hP.2.1 (fun x a b => u1 x (by omega)), enA_sm hP.2.2 (fun x a b => u1 x (by omega))⟩
    obtain ⟨W, w0, w1⟩ := r_314 (sh := sh) (f := f) (P := (-1 : Int32)) hf c ho.2 a1 a2 (o - 1) 1 f U false (fun _ => 0) (by omega) (by omega) (by omega) PU rmA (fun j hj => by have := pQ_b j; omega) (fun _ => u2)
    have w0' : F_X12_parted_L314 sh f 94 a1 a2 (I o) f U 0 1 = _ := w0
    rw [F_X12_parted_L207, if_pos (by rw [I_leN (by omega) (by omega)]; omega), u0', w0']
    exact ⟨W, rfl, w1⟩
  | succ d ih =>
    intro v nf T h1 hv h2 hP rm
    obtain ⟨nf, rfl⟩ : ∃ e, nf = e + 1 := ⟨nf - 1, by omega⟩
    obtain ⟨rm1, rm2, rm3⟩ := rmD_s rm
    obtain ⟨U, u0, u1, W, w0, w1, w2, w3, w4⟩ := r_2fl (sh := sh) (f := f) (o := o) (v := v) hf c hP ⟨hv, by omega⟩ ho.2
    rw [if_pos rm1] at u0
    rw [if_pos rm2] at w0
    obtain ⟨X, x0, x1, x2⟩ := r_hasPole (sh := sh) (f := f) (S := W) (sd := 0) (kd := 0) (by omega) (w3 rm1) c10 (by omega) (by omega) (-1) (-1) (Or.inl ⟨rfl, rfl⟩)
    have x0' : F_X12_hasPole sh f W 94 (94 + 24) (-1) (-1) = some (if eP B N v = -1 then 0 else 1, X) := x0
    have PX : rP S X N F := rP_tf w1 (x1.mono (fun j hj => hj) (fun x hx => by simp only [List.mem_cons, List.not_mem_nil, or_false] at hx ⊢; omega))
    rw [F_X12_parted_L207, if_neg (by rw [I_leN (by omega) (by omega)]; omega), u0, Option.bind_some, if_neg (show ¬ (1 : Int32) = 0 by decide), w0, Option.bind_some, if_neg (show ¬ (1 : Int32) = 0 by decide)]
    unfold F_X12_parted_L246
    rw [x0', Option.bind_some, ppD, if_pos rfl]
    by_cases z1 : eP B N v = -1
    · rw [if_pos z1, if_pos (show (0 : Int32) = 0 from rfl), if_pos z1]
      obtain ⟨Y, y0, y1, y2⟩ := r_hasPole (sh := sh) (f := f) (S := X) (sd := 0) (kd := 0) (by omega) (rW_fr (w4 rm2) x1) c11 (by omega) (by omega) (-1) (-1) (Or.inl ⟨rfl, rfl⟩)
      have y0' : F_X12_hasPole sh f X 94 (94 + 31) (-1) (-1) = some (if eP B F (o - v) = -1 then 0 else 1, Y) := y0
      have PY : rP S Y N F := rP_tf PX (y1.mono (fun j hj => hj) (fun x hx => by simp only [List.mem_cons, List.not_mem_nil, or_false] at hx ⊢; omega))
      rw [y0', Option.bind_some]
      by_cases z2 : eP B F (o - v) = -1
      · rw [if_pos z2, if_pos (show (0 : Int32) = 0 from rfl), z2, bnd_e, I_suc]
        exact ih (v + 1) nf Y (by omega) (by omega) (by omega) PY rm3
      · rw [if_neg z2, if_neg (show ¬ (1 : Int32) = 0 by decide), ppD_st z2]
        unfold fCd
        rw [if_pos (show eP B F (o - v) ≠ -1 from z2), if_neg (show ¬ (5 : Int32) = 0 by decide)]
        exact r_pol' PY.1 (y2 z2)
    · rw [if_neg z1, if_neg (show ¬ (1 : Int32) = 0 by decide), if_neg z1, ppD_st z1]
      unfold fCd
      rw [if_pos (show eP B N v ≠ -1 from z1), if_neg (show ¬ (5 : Int32) = 0 by decide)]
      exact r_pol' PX.1 (x2 z1)
noncomputable def qCd (B : Bk) (N F : En) (le : Nat → Int) (o : Nat) : Int32 := if rmD B N F o (o - 1) 1 = true then fCd (llD B N F o (o - 1) 1 false) (fun k => rrD B N F le o k (o - 1) 1 0) (ppD B N F o (o - 1) 1 (-1)) else 3
theorem r_158 {o : Nat} (hf : 20000 ≤ f) (c : rCx sh S q B N F le) (ho : 2 ≤ o ∧ o ≤ 3) (a1 a2 : Int32) : ∀ (d v nf : Nat) (T : St), v + d = o → 1 ≤ v → d < nf → rP S T N F → rmD B N F o (o - 1) 1 = rmD B N F o d v → ∃ U, F_X12_parted_L158 sh f 94 a1 a2 (I o) nf T (I v) = some (if qCd B N F le o = 0 then 1 else 0, U) ∧ rAns S U (qCd B N F le o) (fun k => rrD B N F le o k (o - 1) 1 0) (ppD B N F o (o - 1) 1 (-1)) := by
  intro d
  induction d with
  | zero =>
    intro v nf T h1 hv h2 hP rm
    obtain ⟨nf, rfl⟩ : ∃ e, nf = e + 1 := ⟨nf - 1, by omega⟩
    rw [rmD] at rm
    rw [F_X12_parted_L158, if_pos (by rw [I_leN (by omega) (by omega)]; omega)]
    unfold qCd
    rw [if_pos rm]
    exact r_207 hf c ho rm a1 a2 (o - 1) 1 f T (by omega) (by omega) (by omega) hP rm
  | succ d ih =>
    intro v nf T h1 hv h2 hP rm
    obtain ⟨nf, rfl⟩ : ∃ e, nf = e + 1 := ⟨nf - 1, by omega⟩
    obtain ⟨U, u0, u1, W, w0, w1, w2, w3, w4⟩ := r_2fl (sh := sh) (f := f) (o := o) (v := v) hf c hP ⟨hv, by omega⟩ ho.2
    rw [F_X12_parted_L158, if_neg (by rw [I_leN (by omega) (by omega)]; omega), u0, Option.bind_some]
    have no : ∀ X, rP S X N F → rmD B N F o (d + 1) v = false → ∃ U, ((F_X12_denied sh f X 94 3).bind fun y => if ¬ (y.1 = 0 ∨ y.1 = 1) then none else some (y.1, y.2)) = some (if qCd B N F le o = 0 then 1 else 0, U) ∧ rAns S U (qCd B N F le o) (fun k => rrD B N F le o k (o - 1) 1 0) (ppD B N F o (o - 1) 1 (-1)) := fun X hX e => by
      have q3 : qCd B N F le o = 3 := if_neg (by rw [rm, e]; decide)
      rw [q3, if_neg (show ¬ (3 : Int32) = 0 by decide)]
      exact r_den' hX.1 (by decide)
    by_cases l1 : (eD B N v).length ≤ 200
    · rw [if_pos l1, if_neg (show ¬ (1 : Int32) = 0 by decide), w0, Option.bind_some]
      by_cases l2 : (eD B F (o - v)).length ≤ 200
      · rw [if_pos l2, if_neg (show ¬ (1 : Int32) = 0 by decide), bnd_e, I_suc]
        refine ih (v + 1) nf W (by omega) (by omega) (by omega) w1 ?_
        rw [rm, rmD, decide_eq_true l1, decide_eq_true l2, Bool.true_and, Bool.true_and]
      · rw [if_neg l2, if_pos (show (0 : Int32) = 0 from rfl)]
        exact no W w1 (by rw [rmD, decide_eq_false l2, Bool.and_false, Bool.false_and])
    · rw [if_neg l1, if_pos (show (0 : Int32) = 0 from rfl)]
      exact no U u1 (by rw [rmD, decide_eq_false l1, Bool.false_and, Bool.false_and])
end CRx
