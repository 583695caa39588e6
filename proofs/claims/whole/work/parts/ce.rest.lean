/-! THE REST of the reference is the one of the class. -/
section CEx
variable {sh : List Sh} {f : Nat} {S : St} {q : Nat}
/-- some drawing's rest is lost, by the prime k -/
noncomputable def zL (nu : Nat → Int) (V sd kd k : Nat) : List Dw → Bool
  | [] => false
  | d :: r => (usd V sd kd d && blN nu sd kd k d == 0) || zL nu V sd kd k r
theorem r_restOf {p1 : Nat} {B : Bk} {n : Nat} {ek : Nat → Nat} {nu le : Nat → Int} {V sd kd k : Nat} (hf : 1000 ≤ f) (h : rW sh S p1 q B n ek nu V) (hn : nuB nu n) (hle : ∀ l, l < 3 → -99 ≤ le l ∧ le l ≤ 99 ∧ sA S 110 l = I (le l)) (hs : sd < 64) (hkd : kd < 8) (hk4 : k < 4) (a2 a3 : Int32) (ha : sd = 0 ∧ a2 = -1 ∨ sd ≠ 0 ∧ a2 = I sd ∧ a3 = I kd) : ∃ S', F_X12_restOf sh f S 94 p1 (I (pQ k : Nat)) a2 a3 = some (if zL nu V sd kd k (dls B n ek V (4 ^ V)) = true then -1 else I (rsL nu le V sd kd k 0 (dls B n ek V (4 ^ V)) : Nat), S') ∧ tF S S' := by
  have l200 := h.2.2.2.2.2.2.2.2.2.1
  have hp := h.1
  have pb := pQ_b k
  have lp : ∀ (r i nf a : Nat) (T : St), i + r = (dls B n ek V (4 ^ V)).length → r < nf → a < pQ k → tF S T → ∃ S', F_X12_restOf_L6 sh f 94 p1 (I (pQ k : Nat)) a2 a3 nf T (J a) (I i) = some (if zL nu V sd kd k ((dls B n ek V (4 ^ V)).drop i) = true then -1 else I (rsL nu le V sd kd k a ((dls B n ek V (4 ^ V)).drop i) : Nat), S') ∧ tF S S' := by
    intro r
    induction r with
    | zero =>
      intro i nf a T h1 h2 a1 F
      obtain ⟨nf, rfl⟩ : ∃ e, nf = e + 1 := ⟨nf - 1, by omega⟩
      have hT := rW_fr h F
      rw [F_X12_restOf_L6, hT.2.2.2.2.2.2.2.2.2.2.1, if_pos (by rw [I_leN (by omega) (by omega)]; omega), List.drop_eq_nil_of_le (by omega), J_to32 (by omega), rsL, zL]
      exact ⟨T, rfl, F⟩
    | succ r ih =>
      intro i nf a T h1 h2 a1 F
      obtain ⟨nf, rfl⟩ : ∃ e, nf = e + 1 := ⟨nf - 1, by omega⟩
      have hT := rW_fr h F
      have il : i < (dls B n ek V (4 ^ V)).length := by omega
      obtain ⟨d, hd⟩ : ∃ d, (dls B n ek V (4 ^ V))[i]? = some d := ⟨_, List.getElem?_eq_getElem il⟩
      have dr : (dls B n ek V (4 ^ V)).drop i = d :: (dls B n ek V (4 ^ V)).drop (i + 1) := by
        rw [List.drop_eq_getElem_cons il]
        rw [List.getElem?_eq_getElem il] at hd
        rw [Option.some.inj hd]
      obtain ⟨i2, ok, w, c, yb, yn, ye, yv⟩ := rW_at hT hd
      obtain ⟨U, u0, u1, u2⟩ := r_isTree (sh := sh) hf hT hd
      have FU := F.trans u2
      have nxt : ∀ W : St, tF S W → usd V sd kd d = false → ∃ S', F_X12_restOf_L6 sh f 94 p1 (I (pQ k : Nat)) a2 a3 nf W (J a) (I i + 1) = some (if zL nu V sd kd k ((dls B n ek V (4 ^ V)).drop i) = true then -1 else I (rsL nu le V sd kd k a ((dls B n ek V (4 ^ V)).drop i) : Nat), S') ∧ tF S S' := fun W FW u => by
        have nu' : ¬ usd V sd kd d = true := by rw [u]; decide
        rw [dr, rsL, zL, if_neg nu', I_suc, u, Bool.false_and, Bool.false_or]
        exact ih (i + 1) nf a W (by omega) (by omega) a1 FW
      have run : ∀ (W : St) (wi : Int), tF S W → shC sh W d.2.1 d.2.2 q → usd V sd kd d = true → (-1 ≤ wi ∧ wi < 12) → lgs d.2.1 d.2.2 wi (yL d.2.1) 0 = byW sd kd d → ∃ S', F_X12_restOf_L60 sh f 94 p1 (I (pQ k : Nat)) a2 a3 (F_X12_restOf_L6 sh f 94 p1 (I (pQ k : Nat)) a2 a3 nf) W (J a) (I i) (I wi) = some (if zL nu V sd kd k ((dls B n ek V (4 ^ V)).drop i) = true then -1 else I (rsL nu le V sd kd k a ((dls B n ek V (4 ^ V)).drop i) : Nat), S') ∧ tF S S' := fun W wi FW cW u hw lw => by
        have L12 := ok.2.2.2.2.2.2.1
        have hW := rW_fr h FW
        obtain ⟨r1, r2, r3, r4⟩ := hW.2.2.2.2.2.2.2.2.2.2.2.2 i d hd
        have ob := obal_b ok w
        have nb := yNa_b ok
        have sg := r_signHere (sh := sh) (f := f) hf ok w cW
        have sp := sgR_pm d.2.1 d.2.2
        have xb : (sgR d.2.1 d.2.2 * (obN d.2.1 d.2.2 : Nat)).natAbs ≤ 100663296 := by
          rcases sp with e | e <;> rw [e] <;> omega
        have ks : (I (sgR d.2.1 d.2.2)).toInt64 = J (sgR d.2.1 d.2.2) := J_I (by omega)
        have ko : (I (obN d.2.1 d.2.2 : Nat) : Int32).toInt64 = J (obN d.2.1 d.2.2 : Nat) := J_I (by omega)
        have kn : (I (yNa d.2.1 : Nat) : Int32).toInt64 = J (yNa d.2.1 : Nat) := J_I (by omega)
        obtain ⟨q1, q2⟩ := trm_eq (le := le) (nu := nu) (sd := sd) (kd := kd) ok w hk4 a
        generalize hx : sgR d.2.1 d.2.2 * (obN d.2.1 d.2.2 : Nat) = x at *
        have m1 := r_mod (sh := sh) (f := f) (S := W) (a := x) (p := (pQ k : Nat)) (by omega) (by omega)
        have m2 := r_mod (sh := sh) (f := f) (S := W) (a := (yNa d.2.1 : Nat)) (p := (pQ k : Nat)) (by omega) (by omega)
        rw [← Int.natCast_emod] at m2
        have n0 := Int.emod_nonneg x (b := (pQ k : Nat)) (by omega)
        have n1 := Int.emod_lt_of_pos x (b := (pQ k : Nat)) (by omega)
        have n2 : yNa d.2.1 % pQ k < pQ k := Nat.mod_lt _ (by omega)
        obtain ⟨v, hv⟩ : ∃ v : Nat, x % (pQ k : Nat) = v := ⟨(x % (pQ k : Nat)).toNat, by omega⟩
        rw [hv] at m1 q2
        have ev : ((v : Int)).toNat = v := rfl
        rw [ev] at q2
        have kv : (I (v : Int)).toInt64 = J v := J_I (by omega)
        have ku : (I (yNa d.2.1 % pQ k : Nat) : Int32).toInt64 = J (yNa d.2.1 % pQ k : Nat) := J_I (by omega)
        have b2 : ¬ (I (i : Int) < 0 ∨ 200 ≤ i) := I_bnd i2 (by omega)
        have t9 := r_rs99 (sh := sh) (f := f) (S := W) (q := q) (p1 := p1) (k := k) (i := i) (le := le) hf ok cW i2 (by rw [yv]; exact hW.2.2.2.2.2.2.1) r1 (fun l hl => ⟨(hle l hl).1, (hle l hl).2.1, ((tF_c FW (by omega) (by omega)).A l).trans (hle l hl).2.2⟩) a2 a3 (F_X12_restOf_L6 sh f 94 p1 (I (pQ k : Nat)) a2 a3 nf) (J a) (I wi) (J (yNa d.2.1 % pQ k : Nat)) (yV d.2.1) 0 f v (by omega) (by have := ok.2.2.2.1; omega) (by omega)
        have vl := vF_lt (p := pQ k) (by omega) le d.2.1 (yV d.2.1) 0 v (by omega)
        obtain ⟨X, x0, x1⟩ := r_rs172 (sh := sh) (f := f) (S := W) (q := q) (p1 := p1) (k := k) (nu := nu) hf ok w c (by rw [yn]; exact hn) cW (by omega) (by omega) (by rw [yn]; exact hW.2.2.2.2.2.2.2.1) (fun e he => (hW.2.2.2.2.2.2.2.2.1 e (by omega)).2) a2 a3 (F_X12_restOf_L6 sh f 94 p1 (I (pQ k : Nat)) a2 a3 nf) hw i (acc := a) a1 vl (yL d.2.1) 0 f W (yNa d.2.1 % pQ k) (by omega) (by omega) n2 (fun _ _ => Sm.rfl)
        have FX : tF S X := FW.trans ((fr_of (by decide) x1).mono (by decide) (by decide))
        rw [lw, q2] at x0
        simp only [q1] at x0
        have t9' : F_X12_restOf_L99 sh f 94 p1 (I (pQ k : Nat)) a2 a3 (F_X12_restOf_L6 sh f 94 p1 (I (pQ k : Nat)) a2 a3 nf) f W (J a) (I i) (I wi) (J v) (J (yNa d.2.1 % pQ k : Nat)) 0 = _ := t9
        have x0' : F_X12_restOf_L172 sh f 94 p1 (I (pQ k : Nat)) a2 a3 (F_X12_restOf_L6 sh f 94 p1 (I (pQ k : Nat)) a2 a3 nf) f W (J a) (I i) (I wi) (J (vF (pQ k) le d.2.1 (yV d.2.1) 0 v : Nat)) (J (yNa d.2.1 % pQ k : Nat)) 0 = _ := x0
        unfold F_X12_restOf_L60
        rw [sg, Option.bind_some, I_clN (show i < _ by omega), if_neg b2, r4, ks, ko, J_mul, hx, m1, Option.bind_some, kv, bnd_e, if_neg b2, r3, kn, m2, Option.bind_some, ku, bnd_e, t9', x0', dr, rsL, zL, if_pos u, u, Bool.true_and]
        by_cases z : blN nu sd kd k d = 0
        · have zb : (blN nu sd kd k d == 0) = true := by rw [beq_iff_eq]; exact z
          rw [if_pos z, zb, Bool.true_or]
          exact ⟨X, rfl, FX⟩
        · have zb : (blN nu sd kd k d == 0) = false := by rw [beq_eq_false_iff_ne]; exact z
          rw [if_neg z, zb, Bool.false_or]
          exact ih (i + 1) nf _ X (by omega) (by omega) (Nat.mod_lt _ (by omega)) FX
      rw [F_X12_restOf_L6, hT.2.2.2.2.2.2.2.2.2.2.1, if_neg (by rw [I_leN (by omega) (by omega)]; omega), u0, Option.bind_some]
      by_cases t : trB V d = true
      · rw [if_pos t, if_neg (show ¬ (1 : Int32) = 0 by decide)]
        rcases ha with ⟨z, e2⟩ | ⟨z, e2, e3⟩
        · subst z
          rw [if_pos e2]
          unfold F_X12_restOf_L44
          rw [if_pos e2]
          have u : usd V 0 kd d = true := by unfold usd; rw [t]; rfl
          exact run U (-1) FU u1 u (by omega) (lgs_all kd d)
        · have n2 : ¬ a2 = (-1 : Int32) := by
            rw [e2, show (-1 : Int32) = I (-1) from rfl, I_eq (by omega) (by omega)]
            omega
          obtain ⟨X, x0, x1⟩ := r_cutOf (sh := sh) (f := f) (sd := sd) (kd := kd) hf ok w c u1 hs hkd
          have FX : tF S X := FU.trans ((fr_of (by decide) x1).mono (by decide) (by decide))
          obtain ⟨g1, g2, g3, g4⟩ := lgs_one (sd := sd) (kd := kd) ok w c yv t z
          have fm : (I (fcF d.2.1 d.2.2 sd kd (yL d.2.1) 0) = (-1 : Int32)) = (fcF d.2.1 d.2.2 sd kd (yL d.2.1) 0 = -1) := by
            rw [show (-1 : Int32) = I (-1) from rfl, I_eq (by omega) (by omega)]
          rw [if_neg n2, e2, e3, x0, Option.bind_some, ← e2, ← e3]
          unfold F_X12_restOf_L44
          rw [if_neg n2]
          simp only [fm]
          by_cases y : fcF d.2.1 d.2.2 sd kd (yL d.2.1) 0 = -1
          · rw [if_pos y, bnd_e]
            exact nxt X FX (g1.mp y)
          · have u : usd V sd kd d = true := by
              cases e : usd V sd kd d with
              | true => rfl
              | false => exact absurd (g1.mpr e) y
            rw [if_neg y]
            exact run X _ FX (shC_sm u1 x1) u ⟨g2, g3⟩ (g4 u)
      · rw [if_neg t, if_pos rfl, bnd_e]
        exact nxt U FU (by unfold usd; rw [Bool.eq_false_iff.mpr t]; rfl)
  unfold F_X12_restOf
  have := lp (dls B n ek V (4 ^ V)).length 0 f 0 S (by omega) (by omega) (by omega) fr.rfl
  rw [List.drop_zero] at this
  exact this
end CEx
