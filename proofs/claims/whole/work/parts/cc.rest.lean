/-! RESTS of the reference: a drawing's worths and letters. -/
section CCx
/-- worths and letters of the points from m on, by p -/
def vF (p : Nat) (le : Nat → Int) (Y : Ly) : Nat → Nat → Nat → Nat
  | 0, _, v => v
  | d + 1, m, v => vF p le Y d (m + 1) (v * ((bW (yB Y) (yU Y m) * le (bL (yB Y) (yU Y m))) % (p : Int)).toNat % p)
theorem vF_lt {p : Nat} (hp : 0 < p) (le : Nat → Int) (Y : Ly) : ∀ d m v, v < p → vF p le Y d m v < p
  | 0, _, _, h => h
  | d + 1, m, v, _ => by rw [vF]; exact vF_lt hp le Y d (m + 1) _ (Nat.mod_lt _ hp)
variable {sh : List Sh} {f : Nat} {S : St} {q : Nat}
theorem r_rs99 {Y : Ly} {ρ : Nat → Nat} {p1 k i : Nat} {le : Nat → Int} (hf : 1000 ≤ f) (ok : yOk Y) (h : shC sh S Y ρ q) (hi : i < 200) (s1 : sI S p1 1 = I (yV Y)) (e1 : ∀ p, p < yV Y → sA S (p1 + 3) (3 * i + p) = I (yU Y p)) (hle : ∀ l, l < 3 → -99 ≤ le l ∧ le l ≤ 99 ∧ sA S 110 l = I (le l)) (a3 a4 : Int32) (k6 : St → Int64 → Int32 → Option (Int32 × St)) (acc : Int64) (wi : Int32) (u : Int64) : ∀ (d m nf v : Nat), m + d = yV Y → d < nf → v < pQ k → F_X12_restOf_L99 sh f 94 p1 (I (pQ k : Nat)) a3 a4 k6 nf S acc (I i) wi (J v) u (I m) = F_X12_restOf_L172 sh f 94 p1 (I (pQ k : Nat)) a3 a4 k6 f S acc (I i) wi (J (vF (pQ k) le Y d m v : Nat)) u 0 := by
  have pb := pQ_b k
  have V3 := ok.2.2.2.1
  have kp : (I (pQ k : Nat) : Int32).toInt64 = J (pQ k : Nat) := J_I (by omega)
  have zp : ¬ J (pQ k : Int) = 0 := J_z (by omega)
  intro d
  induction d with
  | zero =>
    intro m nf v h1 h2 hv
    obtain ⟨nf, rfl⟩ : ∃ e, nf = e + 1 := ⟨nf - 1, by omega⟩
    rw [F_X12_restOf_L99, s1, if_pos (by rw [I_leN (by omega) (by omega)]; omega), vF]
  | succ d ih =>
    intro m nf v h1 h2 hv
    obtain ⟨nf, rfl⟩ : ∃ e, nf = e + 1 := ⟨nf - 1, by omega⟩
    have ix : (3 : Int32) * I (i : Int) + I (m : Int) = I ((3 * i + m : Nat) : Int) := by
      rw [show (3 : Int32) = I 3 from rfl, I_mul, I_add]
      congr 1
    have ixb : ¬ (I ((3 * i + m : Nat) : Int) < 0 ∨ 600 ≤ 3 * i + m) := I_bnd (show 3 * i + m < 600 by omega) (by omega)
    have ul := ok.2.2.2.2.1 m (by omega)
    have r4 := ok.1.2.1
    obtain ⟨b1, b2, b3, b4, b5, b6⟩ := ok.1.2.2.2 (yU Y m) ul
    have br := h.2.2.2.2.2.2.2.2.2 (yU Y m) ul
    have cu : (I (yU Y m : Int)).toNatClampNeg = yU Y m := I_clN (by omega)
    have ub : ¬ (I (yU Y m : Int) < 0 ∨ 4 ≤ yU Y m) := I_bnd (show yU Y m < 4 by omega) (by omega)
    have cl' : (I (bL (yB Y) (yU Y m) : Int)).toNatClampNeg = bL (yB Y) (yU Y m) := I_clN (by omega)
    have lb : ¬ (I (bL (yB Y) (yU Y m) : Int) < 0 ∨ 3 ≤ bL (yB Y) (yU Y m)) := I_bnd (show bL (yB Y) (yU Y m) < 3 by omega) (by omega)
    obtain ⟨l1, l2, l3⟩ := hle _ b5
    have l3' : sA S (94 + 16) (bL (yB Y) (yU Y m)) = I (le (bL (yB Y) (yU Y m))) := l3
    have kw : (I (bW (yB Y) (yU Y m))).toInt64 = J (bW (yB Y) (yU Y m)) := J_I (by omega)
    have kl : (I (le (bL (yB Y) (yU Y m)))).toInt64 = J (le (bL (yB Y) (yU Y m))) := J_I (by omega)
    have xb : (bW (yB Y) (yU Y m) * le (bL (yB Y) (yU Y m))).natAbs ≤ 99 * 99 := by
      rw [Int.natAbs_mul]
      exact Nat.mul_le_mul (by omega) (by omega)
    have ru := e1 m (by omega)
    rw [vF]
    generalize hx : bW (yB Y) (yU Y m) * le (bL (yB Y) (yU Y m)) = x at *
    have md := r_mod (sh := sh) (f := f) (S := S) (a := x) (p := (pQ k : Nat)) (by omega) (by omega)
    have n0 := Int.emod_nonneg x (b := (pQ k : Nat)) (by omega)
    have n1 := Int.emod_lt_of_pos x (b := (pQ k : Nat)) (by omega)
    obtain ⟨rn, hrn⟩ : ∃ n : Nat, x % (pQ k : Nat) = n := ⟨(x % (pQ k : Nat)).toNat, by omega⟩
    rw [hrn] at md
    have kr : (I (rn : Int)).toInt64 = J rn := J_I (by omega)
    have mb : v * rn ≤ 1000039 * 1000039 := Nat.mul_le_mul (by omega) (by omega)
    have val : J v * J rn - J v * J rn / J (pQ k : Nat) * J (pQ k : Nat) = J ((v * rn % pQ k : Nat) : Int) := by
      rw [J_mul, ← Int.natCast_mul, J_rem (by omega) (by omega)]
      rfl
    have en : (x % (pQ k : Nat)).toNat = rn := by rw [hrn]; rfl
    rw [en, F_X12_restOf_L99, s1, if_neg (by rw [I_leN (by omega) (by omega)]; omega), ix, I_clN (show 3 * i + m < _ by omega), if_neg ixb, ru, bnd_e, h.2.2.2.1, Option.bind_some, if_pos h.2.2.2.2.1, cu, if_neg ub, Option.bind_some, if_pos h.2.2.2.2.1, if_neg ub, br.2.2.1, cl', if_neg lb, br.2.1, l3', kw, kl, J_mul, hx, md, Option.bind_some, kp, if_neg zp, kr, val, bnd_e, bnd_e, I_suc]
    exact ih (m + 1) nf (v * rn % pQ k) (by omega) (by omega) (Nat.mod_lt _ (by omega))
end CCx
