/-! WORTHS of the reference: what a join is divided by, and the cut that is asked for. -/
section C6a
variable {sh : List Sh} {f : Nat} {S : St} {Y : Ly} {ρ : Nat → Nat} {q : Nat}
theorem onN_hv (ok : yOk Y) (w : yRw Y ρ) {i : Nat} (hi : i < yL Y) : bH (yB Y) (onN Y ρ i) = bH (yB Y) (yK Y i) := by
  unfold onN
  by_cases c : rcN (lkW Y ρ i) (pB Y (ρ 0)) &&& pB Y i = 0
  · rw [if_pos c, (yRw_lt w hi).2.2.2]
    exact (ok.1.1.2 _ (k_lt ok i)).2.2.2.2.1
  · rw [if_neg c]
theorem sdN_64 (ok : yOk Y) (ρ : Nat → Nat) (i : Nat) : sdN Y ρ i < 64 := by
  have n6 := ok.2.1.2
  have := mkb_lt (fun e => decide (pB Y (ρ e) &&& rcN (lkW Y ρ i) (pB Y (ρ 0)) ≠ 0)) (yN Y)
  have q : 2 ^ yN Y ≤ 2 ^ 6 := Nat.pow_le_pow_right (by omega) n6
  have : sdN Y ρ i < 2 ^ yN Y := this
  omega
theorem r_by {p1 i : Nat} {nu : Nat → Int} (hf : 1000 ≤ f) (ok : yOk Y) (w : yRw Y ρ) (h : shC sh S Y ρ q) (hi : i < yL Y) (s2 : sI S p1 2 = I (yN Y)) (hk : ∀ e, e < yN Y → sA S (p1 + 2) e = I (nu e)) : F_X12_by sh f S 94 p1 (I i) (I (sdN Y ρ i)) = some (I (byI nu Y ρ i)) := by
  have L12 := ok.2.2.2.2.2.2.1
  have sd := sdN_64 ok ρ i
  have fl := r_flow (sh := sh) (f := f) (S := S) (l := p1) (n := yN Y) (en := nu) (s := sdN Y ρ i) hf (by omega) ok.2.1.2 s2 hk
  have kA : sA S (94 + 38) i = I (yK Y i) := (h.1.2.2.1 i hi).1
  have kl := k_lt ok i
  have K8 : bK (yB Y) ≤ 8 := ok.1.1.1
  have hv : sA S (q + 3) (yK Y i) = I (bH (yB Y) (yK Y i)) := (h.2.2.2.2.2.2.2.2.1 (yK Y i) kl).2.1
  have kN : (I (yK Y i : Int)).toNatClampNeg = yK Y i := I_clN (by omega)
  have b12 : ¬ (I (i : Int) < 0 ∨ 12 ≤ i) := I_bnd (show i < 12 by omega) (by omega)
  have b8 : ¬ (I (yK Y i : Int) < 0 ∨ 8 ≤ yK Y i) := I_bnd (show yK Y i < 8 by omega) (by omega)
  have e := onN_hv ok w hi
  unfold F_X12_by
  rw [fl, Option.bind_some, h.2.2.2.1, Option.bind_some, if_pos h.2.2.2.2.1, I_clN (show i < _ by omega), if_neg b12, kA, kN, if_neg b8, bnd_e, hv, I_mul, I_mul, I_sub]
  unfold byI
  rw [e]
/-- the first cut with that side, if the kind on it is the one that is asked for -/
def fcF (Y : Ly) (ρ : Nat → Nat) (sd kd : Nat) : Nat → Nat → Int
  | 0, _ => -1
  | d + 1, m => if cutB Y ρ m = true ∧ sdN Y ρ m = sd then (if onN Y ρ m = kd then m else -1) else fcF Y ρ sd kd d (m + 1)
theorem r_cutOf (hf : 1000 ≤ f) (ok : yOk Y) (w : yRw Y ρ) (c : cn Y ρ) (h : shC sh S Y ρ q) {sd kd : Nat} (hs : sd < 64) (hkd : kd < 8) : ∃ S', F_X12_cutOf sh f S 94 (I sd) (I kd) = some (I (fcF Y ρ sd kd (yL Y) 0), S') ∧ ∀ x, x ≠ 136 → Sm S S' x := by
  have L12 := ok.2.2.2.2.2.2.1
  have V3 := ok.2.2.2.1
  have n6 := ok.2.1
  have K8 : bK (yB Y) ≤ 8 := ok.1.1.1
  have lp : ∀ (d m nf : Nat) (T : St), m + d = yL Y → d < nf → (∀ x, x ≠ 136 → Sm S T x) → ∃ S', F_X12_cutOf_L2 sh f 94 (I sd) (I kd) nf T (I m) = some (I (fcF Y ρ sd kd d m), S') ∧ ∀ x, x ≠ 136 → Sm S S' x := by
    intro d
    induction d with
    | zero =>
      intro m nf T h1 h2 F
      obtain ⟨nf, rfl⟩ : ∃ e, nf = e + 1 := ⟨nf - 1, by omega⟩
      rw [F_X12_cutOf_L2, (shC_sm h F).1.1, if_pos (by rw [I_leN (by omega) (by omega)]; omega)]
      exact ⟨T, rfl, F⟩
    | succ d ih =>
      intro m nf T h1 h2 F
      obtain ⟨nf, rfl⟩ : ∃ e, nf = e + 1 := ⟨nf - 1, by omega⟩
      have hT := shC_sm h F
      obtain ⟨U, u0, u1, u2⟩ := r_sideOf (sh := sh) (f := f) hf ok w c hT (show m < yL Y by omega)
      have FU : ∀ x, x ≠ 136 → Sm S U x := fun x hx => (F x hx).trans (u1 x hx)
      have hU := shC_sm h FU
      have sd6 := sdN_64 ok ρ m
      have b12 : ¬ (I (m : Int) < 0 ∨ 12 ≤ m) := I_bnd (show m < 12 by omega) (by omega)
      have cm : (I (m : Int)).toNatClampNeg = m := I_clN (by omega)
      rw [F_X12_cutOf_L2, hT.1.1, if_neg (by rw [I_leN (by omega) (by omega)]; omega), u0, Option.bind_some, fcF]
      by_cases cb : cutB Y ρ m = true
      · rw [if_pos cb]
        have se : (I (sdN Y ρ m : Int) = I (sd : Int)) = (sdN Y ρ m = sd) := I_eqN (by omega) (by omega)
        simp only [se]
        by_cases e : sdN Y ρ m = sd
        · rw [if_pos e, if_pos (show cutB Y ρ m = true ∧ sdN Y ρ m = sd from ⟨cb, e⟩)]
          obtain ⟨ν, v1, v2, v3⟩ := u2 cb
          have ml : m < yL Y := by omega
          have rl := yRw_lt w ml
          have dl : yD Y m < yN Y + yV Y := yD_lt ok ml
          have kA := (hU.1.2.2.1 m ml).1
          have kD := (hU.1.2.2.1 m ml).2
          have kP := (hU.1.2.2.1 (ρ m) rl.1).1
          have pm := hU.2.1 m ml
          have kA' : sA U (94 + 38) m = I (yK Y m) := kA
          have kD' : sA U (94 + 39) m = I (yD Y m) := kD
          have pm' : sA U (94 + 40) m = I (ρ m) := pm
          have kP' : sA U (94 + 38) (ρ m) = I (yK Y (ρ m)) := kP
          have n1 : sA U (94 + 42) (yD Y m) = I (ν (yD Y m)) := v1 _ dl
          have n0 : sA U (94 + 42) (0 : Int32).toNatClampNeg = I (ν 0) := v1 0 (by omega)
          have l1 := v2 _ dl
          have l0 := v2 0 (by omega)
          have nq : (I (ν (yD Y m) : Int) = I (ν 0 : Int)) = (ν (yD Y m) = ν 0) := I_eqN (by omega) (by omega)
          have kl := k_lt ok m
          have kl' := k_lt ok (ρ m)
          have k1 : (I (yK Y m : Int) = I (kd : Int)) = (yK Y m = kd) := I_eqN (by omega) (by omega)
          have k2 : (I (yK Y (ρ m) : Int) = I (kd : Int)) = (yK Y (ρ m) = kd) := I_eqN (by omega) (by omega)
          have b9 : ¬ (I (yD Y m : Int) < 0 ∨ 9 ≤ yD Y m) := I_bnd (show yD Y m < 9 by omega) (by omega)
          have cd : (I (yD Y m : Int)).toNatClampNeg = yD Y m := I_clN (by omega)
          have cr : (I (ρ m : Int)).toNatClampNeg = ρ m := I_clN (by omega)
          have br : ¬ (I (ρ m : Int) < 0 ∨ 12 ≤ ρ m) := I_bnd (show ρ m < 12 by omega) (by omega)
          rw [cm, if_neg b12, kD', cd, if_neg b9, if_neg (by decide), n1, n0]
          simp only [nq]
          have on : onN Y ρ m = if ν (yD Y m) = ν 0 then yK Y m else yK Y (ρ m) := by
            unfold onN
            by_cases z : ν (yD Y m) = ν 0
            · rw [if_pos z, if_neg (v3.mp z)]
            · rw [if_neg z, if_pos]
              by_cases y : rcN (lkW Y ρ m) (pB Y (ρ 0)) &&& pB Y m = 0
              · exact y
              · exact absurd (v3.mpr y) z
          by_cases z : ν (yD Y m) = ν 0
          · rw [if_pos z] at on
            rw [if_pos z, if_neg b12, kA', on]
            simp only [k1]
            by_cases y : yK Y m = kd
            · rw [if_pos y, if_pos y]; exact ⟨U, rfl, FU⟩
            · rw [if_neg y, if_neg y]; exact ⟨U, rfl, FU⟩
          · rw [if_neg z] at on
            rw [if_neg z, if_neg b12, pm', bnd_e, cr, if_neg br, kP', on]
            simp only [k2]
            by_cases y : yK Y (ρ m) = kd
            · rw [if_pos y, if_pos y]; exact ⟨U, rfl, FU⟩
            · rw [if_neg y, if_neg y]; exact ⟨U, rfl, FU⟩
        · rw [if_neg e, if_neg (show ¬ (cutB Y ρ m = true ∧ sdN Y ρ m = sd) from fun x => e x.2), bnd_e, I_suc]
          exact ih (m + 1) nf U (by omega) (by omega) FU
      · rw [if_neg cb, if_neg (show ¬ ((-1 : Int32) = I (sd : Int)) by rw [show (-1 : Int32) = I (-1) from rfl, I_eq (by omega) (by omega)]; omega), if_neg (show ¬ (cutB Y ρ m = true ∧ sdN Y ρ m = sd) from fun x => cb x.1), bnd_e, I_suc]
        exact ih (m + 1) nf U (by omega) (by omega) FU
  unfold F_X12_cutOf
  exact lp (yL Y) 0 f S (by omega) (by omega) (fun _ _ => Sm.rfl)
end C6a
