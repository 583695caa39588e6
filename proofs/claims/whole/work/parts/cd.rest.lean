/-! RESTS of both: a term of one is a term of the other. -/
section CDx
def pL (Y : Ly) (le : Nat → Int) : Nat → Int
  | 0 => 1
  | p + 1 => pL Y le p * (bW (yB Y) (yU Y p) * le (bL (yB Y) (yU Y p)))
variable {Y : Ly} {ρ : Nat → Nat}
theorem pL_eq (ok : yOk Y) (le : Nat → Int) : ∀ p, p ≤ yV Y → pL Y le p = wrN Y p * (le 0 ^ lcN Y 0 p * le 1 ^ lcN Y 1 p * le 2 ^ lcN Y 2 p)
  | 0, _ => by simp [pL, wrN, lcN]
  | p + 1, h => by
    have b5 := (ok.1.2.2.2 (yU Y p) (ok.2.2.2.2.1 p (by omega))).2.2.2.2.1
    rw [pL, pL_eq ok le p (by omega), wrN, lcN, lcN, lcN]
    rcases (by omega : bL (yB Y) (yU Y p) = 0 ∨ bL (yB Y) (yU Y p) = 1 ∨ bL (yB Y) (yU Y p) = 2) with e | e | e
    · rw [e, if_pos rfl, if_neg (by omega), if_neg (by omega), Int.pow_succ]
      grind
    · rw [e, if_neg (by omega), if_pos rfl, if_neg (by omega), Int.pow_succ]
      grind
    · rw [e, if_neg (by omega), if_neg (by omega), if_pos rfl, Int.pow_succ]
      grind
theorem vF_md {p : Nat} (hp : 0 < p) (le : Nat → Int) (v0 : Int) : ∀ (d m v : Nat), (v : Int) % (p : Int) = (v0 * pL Y le m) % (p : Int) → ((vF p le Y d m v : Nat) : Int) % (p : Int) = (v0 * pL Y le (m + d)) % (p : Int)
  | 0, m, v, h => h
  | d + 1, m, v, h => by
    rw [vF, show m + (d + 1) = m + 1 + d by omega]
    refine vF_md hp le v0 d (m + 1) _ ?_
    generalize hx : bW (yB Y) (yU Y m) * le (bL (yB Y) (yU Y m)) = x
    have n0 := Int.emod_nonneg x (b := (p : Int)) (by omega)
    rw [pL, hx, Int.natCast_emod, Int.natCast_mul, show (((x % (p : Int)).toNat : Nat) : Int) = x % (p : Int) by omega, Int.emod_emod_of_dvd _ (Int.dvd_refl _), Int.mul_emod, Int.emod_emod_of_dvd _ (Int.dvd_refl _), h, ← Int.mul_emod, Int.mul_assoc]
theorem bp_cg {p o : Nat} : ∀ (l : List Int) (a b : Nat), cg' p a (o * b) → cg' p (bpN p a l) (o * bpN p b l)
  | [], _, _, h => h
  | x :: l, a, b, h => by
    rw [bpN, bpN]
    refine bp_cg l _ _ ?_
    have e : cg' p (a * (x % (p : Int)).toNat) (o * b * (x % (p : Int)).toNat) := h.mul rfl
    have e2 : cg' p (o * (b * (x % (p : Int)).toNat % p)) (o * (b * (x % (p : Int)).toNat)) := (show cg' p o o from rfl).mul (cg'.md p _)
    rw [← Nat.mul_assoc] at e2
    exact (cg'.md p _).trans (e.trans e2.symm)
theorem al_p (ok : yOk Y) (w : yRw Y ρ) {k : Nat} (hk : k < 4) : alN Y ρ % pQ k ≠ 0 := by
  intro z
  have b := obal_b ok w
  have pb := pQ_b k
  have g := p23_f (p23_dvd (na_23 ok) (alN Y ρ) (by omega) ⟨obN Y ρ, by rw [Nat.mul_comm]; exact (ob_al ok w).symm⟩) hk
  unfold cg' at g
  rw [Nat.pow_mod, z, Nat.zero_pow (by omega), Nat.zero_mod, Nat.mod_eq_of_lt (show 1 < pQ k by omega)] at g
  omega
theorem bl_z {p a : Nat} (hp : 0 < p) (ha : a % p ≠ 0) (l : List Int) : bpN p a l % p = 0 ↔ bpN p a l = 0 := by
  constructor
  · intro h
    cases l with
    | nil => exact absurd h ha
    | cons b l =>
      have lt : bpN p a (b :: l) < p := by rw [bpN]; exact bpN_lt hp l _ (Nat.mod_lt _ hp)
      rw [Nat.mod_eq_of_lt lt] at h
      exact h
  · intro h; rw [h, Nat.zero_mod]
/-- a drawing's term, of the reference and of the class -/
theorem trm_eq {d : Dw} {le nu : Nat → Int} {sd kd k : Nat} (ok : yOk d.2.1) (w : yRw d.2.1 d.2.2) (hk : k < 4) (acc : Nat) : (bpN (pQ k) (yNa d.2.1 % pQ k) ((byW sd kd d).map (byI nu d.2.1 d.2.2)) = 0 ↔ blN nu sd kd k d = 0) ∧ (acc + vF (pQ k) le d.2.1 (yV d.2.1) 0 ((sgR d.2.1 d.2.2 * (obN d.2.1 d.2.2 : Nat)) % (pQ k : Nat)).toNat * ivN (bpN (pQ k) (yNa d.2.1 % pQ k) ((byW sd kd d).map (byI nu d.2.1 d.2.2))) (pQ k)) % pQ k = (acc + trm (pQ k) (tIN le d) (blN nu sd kd k d)) % pQ k := by
  have pb := pQ_b k
  have bc : cg' (pQ k) (bpN (pQ k) (yNa d.2.1 % pQ k) ((byW sd kd d).map (byI nu d.2.1 d.2.2))) (obN d.2.1 d.2.2 * blN nu sd kd k d) := by
    refine bp_cg _ _ _ ?_
    rw [ob_al ok w]
    exact cg'.md _ _
  have ul : bpN (pQ k) (yNa d.2.1 % pQ k) ((byW sd kd d).map (byI nu d.2.1 d.2.2)) < pQ k := bpN_lt (by omega) _ _ (Nat.mod_lt _ (by omega))
  have sv := Int.emod_nonneg (sgR d.2.1 d.2.2 * (obN d.2.1 d.2.2 : Nat)) (b := (pQ k : Nat)) (by omega)
  have tv := Int.emod_nonneg (tIN le d) (b := (pQ k : Nat)) (by omega)
  have vm := vF_md (Y := d.2.1) (p := pQ k) (by omega) le (sgR d.2.1 d.2.2 * (obN d.2.1 d.2.2 : Nat)) (yV d.2.1) 0 ((sgR d.2.1 d.2.2 * (obN d.2.1 d.2.2 : Nat)) % (pQ k : Nat)).toNat (by
    rw [pL, Int.mul_one, Int.toNat_of_nonneg sv, Int.emod_emod_of_dvd _ (Int.dvd_refl _)])
  rw [Nat.zero_add, pL_eq ok le _ (Nat.le_refl _)] at vm
  generalize vF (pQ k) le d.2.1 (yV d.2.1) 0 ((sgR d.2.1 d.2.2 * (obN d.2.1 d.2.2 : Nat)) % (pQ k : Nat)).toNat = v at *
  have vc : cg' (pQ k) v ((tIN le d % (pQ k : Nat)).toNat * obN d.2.1 d.2.2) := by
    unfold cg'
    apply Int.ofNat_inj.mp
    rw [Int.natCast_emod, Int.natCast_emod, vm, Int.natCast_mul, Int.toNat_of_nonneg tv, Int.mul_emod (tIN le d % _), Int.emod_emod_of_dvd _ (Int.dvd_refl _), ← Int.mul_emod]
    congr 1
    unfold tIN ltN
    grind
  obtain ⟨t1, t2⟩ := term_one (al := 0) (p := pQ k) (by omega) (ob_f ok w hk) vc bc
  generalize bpN (pQ k) (yNa d.2.1 % pQ k) ((byW sd kd d).map (byI nu d.2.1 d.2.2)) = un at *
  constructor
  · rw [Nat.mod_eq_of_lt ul] at t2
    exact t2.trans (bl_z (by omega) (al_p ok w hk) _)
  · rw [← ivN_e]
    unfold trm
    unfold cg' at t1
    rw [Nat.add_mod, Nat.mul_mod, Nat.mod_mod, ← Nat.mul_mod, t1, Nat.add_mod acc (_ % _), Nat.mod_mod]
    congr 2
    simp only [Nat.mul_mod, Nat.mod_mod]
end CDx
