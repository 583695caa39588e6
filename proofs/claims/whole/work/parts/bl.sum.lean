/-! SUM: the reference's loop over the drawings. -/
section BLa
def DMX : Nat := 60 * 12 ^ 12 * (99 ^ 8) ^ 4
theorem DMX_1 : 200 * (100663296 * (970299 * DMX)) * 100663296 * 99 ^ 4 + DMX * 1036800000 * 970299 < 2 ^ 511 := by decide +kernel
theorem DMX_2 : DMX * 100663296 * 99 ^ 4 < 2 ^ 511 := by decide +kernel
theorem DMX_3 : 20 * (20132659200 * 970299 * DMX) < 1073741824 ^ 12 := by decide +kernel
theorem DMX_4 : 200 * (100663296 * (970299 * DMX)) < 2 ^ 511 := by decide +kernel
theorem fr_bd {t N : Int} {l D : Nat} (hD : 0 < D) (e : t * D = N * l) (g : Nat.gcd t.natAbs l = 1) : l ≤ D ∧ t.natAbs ≤ N.natAbs := by
  have y : t.natAbs * D = N.natAbs * l := by
    have := congrArg Int.natAbs e
    rw [Int.natAbs_mul, Int.natAbs_mul, Int.natAbs_natCast, Int.natAbs_natCast] at this
    exact this
  have d : l ∣ D := Nat.Coprime.dvd_of_dvd_mul_left (Nat.Coprime.symm g) (by rw [y]; exact Nat.dvd_mul_left _ _)
  have le := Nat.le_of_dvd hD d
  refine ⟨le, ?_⟩
  have : N.natAbs * l ≤ N.natAbs * D := Nat.mul_le_mul_left _ le
  rw [← y] at this
  exact Nat.le_of_mul_le_mul_right this hD
theorem smal_of {t N many wr : Int} {l D nam hv : Nat} (hD : 0 < D) (DM : D ≤ DMX) (e : t * D = N * l) (g : Nat.gcd t.natAbs l = 1) (l0 : 0 < l) (hN : N.natAbs ≤ 200 * (100663296 * (970299 * DMX))) (hn : 1 ≤ nam ∧ nam ≤ 100663296) (hh : 1 ≤ hv ∧ hv ≤ 99 ^ 4) (hm : many.natAbs ≤ 1036800000) (hw : wr.natAbs ≤ 970299) : smal (t * (nam : Nat) * (hv : Nat) + l * many * wr) (l * nam * hv) := by
  obtain ⟨lD, tN⟩ := fr_bd hD e g
  have l1 : l ≤ DMX := Nat.le_trans lD DM
  have t1 : t.natAbs ≤ 200 * (100663296 * (970299 * DMX)) := Nat.le_trans tN hN
  have a1 : (t * (nam : Nat) * (hv : Nat)).natAbs ≤ 200 * (100663296 * (970299 * DMX)) * 100663296 * 99 ^ 4 := by
    rw [Int.natAbs_mul, Int.natAbs_mul, Int.natAbs_natCast, Int.natAbs_natCast]
    exact Nat.mul_le_mul (Nat.mul_le_mul t1 hn.2) hh.2
  have a2 : ((l : Int) * many * wr).natAbs ≤ DMX * 1036800000 * 970299 := by
    rw [Int.natAbs_mul, Int.natAbs_mul, Int.natAbs_natCast]
    exact Nat.mul_le_mul (Nat.mul_le_mul l1 hm) hw
  have a3 : l * nam * hv ≤ DMX * 100663296 * 99 ^ 4 := Nat.mul_le_mul (Nat.mul_le_mul l1 hn.2) hh.2
  have a4 := Int.natAbs_add_le (t * (nam : Nat) * (hv : Nat)) (l * many * wr)
  exact ⟨Nat.lt_of_le_of_lt (Nat.le_trans a4 (Nat.add_le_add a1 a2)) DMX_1, Nat.mul_pos (Nat.mul_pos l0 hn.1) hh.1, Nat.lt_of_le_of_lt a3 DMX_2⟩
/-- the next fraction -/
theorem fr_nx {t t' N many wr : Int} {l l' D nam hv c : Nat} (l0 : 0 < l) (eD : D = nam * hv * c) (e : t * D = N * l) (e' : t' * ((l * nam * hv : Nat) : Int) = (t * (nam : Nat) * (hv : Nat) + l * many * wr) * l') : t' * D = (N + many * (wr * c)) * l' := by
  subst eD
  have x : (t' * ((nam * hv * c : Nat) : Int)) * l = ((N + many * (wr * c)) * l') * l := by
    have a : (t' * ((nam * hv * c : Nat) : Int)) * l = (t' * ((l * nam * hv : Nat) : Int)) * c := by
      rw [Int.natCast_mul, Int.natCast_mul, Int.natCast_mul, Int.natCast_mul]
      grind
    rw [a, e']
    have b : (t * (nam : Int) * hv + l * many * wr) * l' * c = (t * ((nam * hv * c : Nat) : Int) + l * many * wr * c) * l' := by
      rw [Int.natCast_mul, Int.natCast_mul]
      grind
    rw [b, e]
    grind
  exact Int.eq_of_mul_eq_mul_right (by omega) x
end BLa
section BLb
variable {sh : List Sh} {S : St} {X : NS} {f g V : Nat}
theorem en_grp {i cc : Nat} {d : Dw} (v : liV S g X V) (en : enK S g X V i d cc) (hi : (xD X V)[i]? = some d) : d.1 < (xG X V).length ∧ xY X V d.1 = d.2.1 := by
  have a := (enK_cc v en hi).2.2.1
  refine ⟨(List.getElem?_eq_some_iff.mp a).1, ?_⟩
  have : (xG X V).getD d.1 0 = cc := by rw [List.getD_eq_getElem?_getD, a]; rfl
  unfold xY
  rw [this]
  exact en.2.2.2.1.symm
/-- what a sum's groups are, and what is divided by -/
def gxD (S : St) (g V : Nat) (X : NS) (H : Nat → Nat) (e : Nat → Nat → Nat) : Prop := ∀ j, j < (xG X V).length → sA S (g + 12) j = I (H j) ∧ 1 ≤ H j ∧ H j ≤ 99 ^ 4 ∧ pw (e j) 25 = yNa (xY X V j) * H j ∧ ∀ i, i < 25 → e j i ≤ mxE (xB X) i
noncomputable abbrev xP (X : NS) (V a b c j : Nat) : Bool := pqY (xY X V j) a b c
noncomputable def xE' (e : Nat → Nat → Nat) (X : NS) (V a b c : Nat) : Nat → Nat := mxs e (xP X V a b c) (xG X V).length
noncomputable def xK (e : Nat → Nat → Nat) (X : NS) (V a b c j : Nat) : Int := wrN (xY X V j) V * (pw (fun i => xE' e X V a b c i - e j i) 25 : Nat)
theorem xE_D {H : Nat → Nat} {e : Nat → Nat → Nat} {a b c j : Nat} (gd : gxD S g V X H e) (hj : j < (xG X V).length) (p : xP X V a b c j = true) : pw (xE' e X V a b c) 25 = yNa (xY X V j) * H j * pw (fun i => xE' e X V a b c i - e j i) 25 := by
  rw [← (gd j hj).2.2.2.1, ← pw_add (e j) (fun i => xE' e X V a b c i - e j i)]
  refine pw_cg (fun i _ => ?_)
  have := mxs_ge e (xP X V a b c) i p (xG X V).length hj
  show mxs e (xP X V a b c) (xG X V).length i = e j i + (mxs e (xP X V a b c) (xG X V).length i - e j i)
  omega
theorem xE_M {H : Nat → Nat} {e : Nat → Nat → Nat} {a b c : Nat} (v : liV S g X V) (ok : bkOk (xB X)) (gd : gxD S g V X H e) : 0 < pw (xE' e X V a b c) 25 ∧ pw (xE' e X V a b c) 25 ≤ DMX ∧ ∀ j, pw (fun i => xE' e X V a b c i - e j i) 25 ≤ DMX := by
  have m : pw (xE' e X V a b c) 25 ≤ DMX := Nat.le_trans (pw_mono (fun i hi => mxs_le e (xP X V a b c) (m := mxE (xB X)) (xG X V).length (fun j hj _ => (gd j hj).2.2.2.2 i hi))) (mxE_pw ok)
  exact ⟨pw_pos _ _, m, fun j => Nat.le_trans (pw_mono (fun i _ => Nat.sub_le _ _)) m⟩
theorem xK_b {H : Nat → Nat} {e : Nat → Nat → Nat} {a b c j : Nat} (v : liV S g X V) (ok : bkOk (xB X)) (gd : gxD S g V X H e) (hj : j < (xG X V).length) : (xK e X V a b c j).natAbs ≤ 970299 * DMX := by
  have m := (xE_M (a := a) (b := b) (c := c) v ok gd).2.2 j
  have yok := (xY_ok v hj).2.1
  have w := wr_b yok V (by show V ≤ V; omega)
  have w3 : 99 ^ V ≤ 99 ^ 3 := Nat.pow_le_pow_right (by omega) v.1.2
  unfold xK
  rw [Int.natAbs_mul, Int.natAbs_natCast]
  exact Nat.mul_le_mul (by omega) m
theorem rNL_b {H : Nat → Nat} {e : Nat → Nat → Nat} {a b c : Nat} (v : liV S g X V) (ok : bkOk (xB X)) (gd : gxD S g V X H e) : ∀ n, n ≤ (xD X V).length → (rNL (xP X V a b c) (xK e X V a b c) ((xD X V).take n)).natAbs ≤ n * (100663296 * (970299 * DMX)) := by
  intro n
  induction n with
  | zero => intro _; rw [List.take_zero, rNL]; omega
  | succ n ih =>
    intro h
    obtain ⟨d, hd⟩ : ∃ d, (xD X V)[n]? = some d := ⟨_, List.getElem?_eq_getElem (by omega)⟩
    obtain ⟨cc, en⟩ := enK_of v hd
    obtain ⟨dl, _⟩ := en_grp v en hd
    have w := ((yHg_mem en.2.2.2.2.1).mp en.2.2.2.2.2.1).1
    have ob := obal_b en.2.2.2.2.1 w
    have nb2 := yNa_b en.2.2.2.2.1
    have pm := sgR_pm d.2.1 d.2.2
    have ih := ih (by omega)
    have kb := xK_b (a := a) (b := b) (c := c) v ok gd dl
    have t : (if xP X V a b c d.1 = true then sgR d.2.1 d.2.2 * (obN d.2.1 d.2.2 : Nat) * xK e X V a b c d.1 else 0 : Int).natAbs ≤ 100663296 * (970299 * DMX) := by
      by_cases q : xP X V a b c d.1 = true
      · rw [if_pos q, Int.natAbs_mul, Int.natAbs_mul, Int.natAbs_natCast]
        refine Nat.mul_le_mul ?_ kb
        rcases pm with p | p <;> rw [p] <;> simp <;> omega
      · rw [if_neg q]; simp
    rw [take_s hd, rNL_app, rNL, rNL, Int.add_zero, Nat.add_mul, Nat.one_mul]
    have := Int.natAbs_add_le (rNL (xP X V a b c) (xK e X V a b c) ((xD X V).take n)) (if xP X V a b c d.1 = true then sgR d.2.1 d.2.2 * (obN d.2.1 d.2.2 : Nat) * xK e X V a b c d.1 else 0 : Int)
    omega
end BLb
