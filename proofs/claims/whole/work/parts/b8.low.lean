section B8a
variable {sh : List Sh} {f : Nat}
/-- the cells that the sum's arithmetic uses -/
abbrev lwF (S S' : St) : Prop := ∀ x, ¬ (144 ≤ x ∧ x ≤ 150) → Sm S S' x
theorem nab_p {t : Int} (h : 0 ≤ t) : (t.natAbs : Int) = t := by omega
theorem nab_n {t : Int} (h : ¬ 0 ≤ t) : -(t.natAbs : Int) = t := by omega
theorem emn {t : Int} (h : t.natAbs < 2 ^ 511) : (t % W5 < 2 ^ 511) = (0 ≤ t) := by
  have w : W5 = (4294967296 : Int) ^ 16 := rfl
  by_cases c : 0 ≤ t
  · rw [Int.emod_eq_of_lt c (by omega)]
    exact propext ⟨fun _ => c, fun _ => by omega⟩
  · have e : t % W5 = t + W5 := by
      have := Int.add_mul_emod_self_right t 1 W5
      rw [← this, Int.one_mul]
      exact Int.emod_eq_of_lt (by omega) (by omega)
    rw [e]
    exact propext ⟨fun _ => by omega, fun _ => by omega⟩
theorem r_low27 (hf : 20000 ≤ f) (S : St) {a l : Nat} (wt : wz S 144 = a) (wl : wz S 145 = l) (al : a < 2 ^ 511) (l0 : 0 < l) (ll : l < 2 ^ 511) (b : Int32) : ∃ S', F_X12_lowers_L27 sh f 94 S b = (if b = 0 then some S' else (F_X12_turns sh f S' 144 16).bind fun y => some y) ∧ wz S' 144 = ((a / Nat.gcd a l : Nat) : Int) ∧ wz S' 145 = ((l / Nat.gcd a l : Nat) : Int) ∧ lwF S S' := by
  obtain ⟨A, a0, a1, a2⟩ := r_wcopies (sh := sh) (f := f) (by omega) S (c0 := 146) (c1 := 144) (by omega)
  obtain ⟨B, b0, b1, b2⟩ := r_wcopies (sh := sh) (f := f) (by omega) A (c0 := 147) (c1 := 145) (by omega)
  have wB6 : wz B 146 = a := by rw [wz_sm (b2 146 (by omega)), a1, wt]
  have wB7 : wz B 147 = l := by rw [b1, wz_sm (a2 145 (by omega)), wl]
  obtain ⟨C, d0, d1, d2⟩ := r_divisor (sh := sh) (f := f) (c0 := 146) (c1 := 147) hf B (by omega) (by omega) (by omega) wB6 wB7 al ll
  have g0 : 0 < Nat.gcd a l := Nat.gcd_pos_of_pos_right a l0
  have gl : Nat.gcd a l ≤ l := Nat.gcd_le_right a l0
  have smC : ∀ x, ¬ (146 ≤ x ∧ x ≤ 150) → Sm S C x := fun x hx => ((a2 x (by omega)).trans (b2 x (by omega))).trans (d2 x (by omega) (by omega) (by omega))
  obtain ⟨D, e0, e1, e2⟩ := r_divides (sh := sh) (f := f) (c0 := 144) (c1 := 146) (by omega) C (by omega) (by omega) (by omega) g0 (by omega) (by rw [wz_sm (smC 144 (by omega)), wt]) d1
  obtain ⟨E, g1, g2, g3⟩ := r_divides (sh := sh) (f := f) (c0 := 145) (c1 := 146) (by omega) D (by omega) (by omega) (by omega) g0 (by omega) (by rw [wz_sm (e2 145 (by omega) (by omega)), wz_sm (smC 145 (by omega)), wl]) (by rw [wz_sm (e2 146 (by omega) (by omega)), d1])
  have a0' : F_X12_copies sh f S (94 + 52) 16 (94 + 50) 16 = some A := a0
  have b0' : F_X12_copies sh f A (94 + 53) 16 (94 + 51) 16 = some B := b0
  have d0' : F_X12_divisor sh f B 94 (94 + 52) 16 (94 + 53) 16 = some C := d0
  have e0' : F_X12_divides sh f C 94 (94 + 50) 16 (94 + 52) 16 = some D := e0
  have g1' : F_X12_divides sh f D 94 (94 + 51) 16 (94 + 52) 16 = some E := g1
  unfold F_X12_lowers_L27
  simp only [a0', Option.bind_some, b0', d0', e0', g1']
  refine ⟨E, rfl, ?_, g2, fun x hx => ((smC x (by omega)).trans (e2 x (by omega) (by omega))).trans (g3 x (by omega) (by omega))⟩
  rw [wz_sm (g3 144 (by omega) (by omega)), e1]
/-- a fraction that the cells 144 and 145 tell -/
def frC (S : St) (t : Int) (l : Nat) : Prop := wz S 144 = t % W5 ∧ wz S 145 = l
theorem r_lowers (hf : 20000 ≤ f) (S : St) {t : Int} {l : Nat} (h : frC S t l) (tl : t.natAbs < 2 ^ 511) (l0 : 0 < l) (ll : l < 2 ^ 511) : ∃ S' t' l', F_X12_lowers sh f S 94 = some S' ∧ frC S' t' l' ∧ t = t' * (Nat.gcd t.natAbs l : Nat) ∧ l = l' * Nat.gcd t.natAbs l ∧ Nat.gcd t'.natAbs l' = 1 ∧ 0 < l' ∧ lwF S S' := by
  have w : W5 = (4294967296 : Int) ^ 16 := rfl
  have g0 : 0 < Nat.gcd t.natAbs l := Nat.gcd_pos_of_pos_right _ l0
  have gd1 := Nat.div_mul_cancel (Nat.gcd_dvd_left t.natAbs l)
  have gd2 := Nat.div_mul_cancel (Nat.gcd_dvd_right t.natAbs l)
  have co : Nat.gcd (t.natAbs / Nat.gcd t.natAbs l) (l / Nat.gcd t.natAbs l) = 1 := Nat.gcd_div_gcd_div_gcd_of_pos_right l0
  have lp : 0 < l / Nat.gcd t.natAbs l := Nat.div_pos (Nat.le_of_dvd l0 (Nat.gcd_dvd_right _ _)) g0
  have sg : (0 ≤ sA S (94 + 50) (15 : Int32).toNatClampNeg) = (0 ≤ t) := by
    have := wz_sign S 144
    rw [h.1, emn tl] at this
    exact this
  unfold F_X12_lowers
  rw [if_neg (by decide)]
  simp only [sg]
  generalize hg : Nat.gcd t.natAbs l = g at *
  by_cases c : 0 ≤ t
  · obtain ⟨S', s0, s1, s2, s3⟩ := r_low27 (sh := sh) (f := f) hf S (a := t.natAbs) (l := l) (by rw [h.1, Int.emod_eq_of_lt c (by omega)]; omega) h.2 tl l0 ll 0
    rw [if_pos rfl] at s0
    rw [hg] at s1 s2
    rw [if_pos c]
    unfold F_X12_lowers_L15
    rw [if_pos rfl, s0]
    refine ⟨S', ((t.natAbs / g : Nat) : Int), l / g, rfl, ⟨?_, s2⟩, ?_, gd2.symm, by rw [Int.natAbs_natCast]; exact co, lp, s3⟩
    · have := wz_bd S' 144
      rw [s1] at this ⊢
      exact (Int.emod_eq_of_lt this.1 this.2).symm
    · rw [← Int.natCast_mul, gd1]; exact (nab_p c).symm
  · obtain ⟨A, a0, a1, a2⟩ := r_turns (sh := sh) (f := f) (by omega) S 144
    have wA : wz A 144 = t.natAbs := by
      rw [a1, h.1, ngm, show -t = (t.natAbs : Int) by have := nab_n c; rw [← this, Int.neg_neg, this]]
      exact Int.emod_eq_of_lt (by omega) (by omega)
    obtain ⟨S', s0, s1, s2, s3⟩ := r_low27 (sh := sh) (f := f) hf A (a := t.natAbs) (l := l) wA (by rw [wz_sm (a2 145 (by omega)), h.2]) tl l0 ll 1
    obtain ⟨B, b0, b1, b2⟩ := r_turns (sh := sh) (f := f) (by omega) S' 144
    rw [if_neg (by decide), b0] at s0
    rw [hg] at s1 s2
    have a0' : F_X12_turns sh f S (94 + 50) 16 = some A := a0
    rw [if_neg c]
    unfold F_X12_lowers_L15
    rw [if_neg (by decide), a0', Option.bind_some, s0]
    refine ⟨B, -((t.natAbs / g : Nat) : Int), l / g, rfl, ⟨?_, by rw [wz_sm (b2 145 (by omega)), s2]⟩, ?_, gd2.symm, by rw [Int.natAbs_neg, Int.natAbs_natCast]; exact co, lp, fun x hx => ((a2 x (by omega)).trans (s3 x hx)).trans (b2 x (by omega))⟩
    · rw [b1, s1]
    · rw [Int.neg_mul, ← Int.natCast_mul, gd1]; exact (nab_n c).symm
theorem wz_split (S : St) (c : Nat) : ∃ h : Int, 0 ≤ h ∧ wz S c = uu (sA S c 0) + 4294967296 * uu (sA S c 1) + 18446744073709551616 * h ∧ (h = 0 ↔ ∀ k, 2 ≤ k → k < 16 → uu (sA S c k) = 0) := by
  have z := dv_z (B := 4294967296) (x := fun k => uu (sA S c (k + 1 + 1))) (by omega) (m := 14) (fun k _ => (uu_bd _).1)
  refine ⟨dv 4294967296 (fun k => uu (sA S c (k + 1 + 1))) 14, z.1, ?_, z.2.trans ⟨fun q k k1 k2 => ?_, fun q k hk => q (k + 1 + 1) (by omega) (by omega)⟩⟩
  · unfold wz
    rw [dv_low 15, dv_low 14]
    simp only [Nat.zero_add]
    omega
  · have := q (k - 2) (by omega)
    rw [show k - 2 + 1 + 1 = k by omega] at this
    exact this
theorem r_longOf {S : St} {c : Nat} {v : Nat} (hv : wz S c = v) (vl : v < 9223372036854775808) : F_X12_longOf sh f S c 16 = some (J v) := by
  obtain ⟨h, h0, e, _⟩ := wz_split S c
  have u0 := uu_bd (sA S c 0)
  have u1 := uu_bd (sA S c 1)
  unfold F_X12_longOf
  rw [if_neg (by decide), if_neg (by decide)]
  have := long_of (x := sA S c 1) (y := sA S c 0) (by omega)
  have t : (sA S c (1 : Int32).toNatClampNeg).toInt64 <<< ((32 : Int32).toInt64 &&& 63) ||| (sA S c (0 : Int32).toNatClampNeg).toInt64 &&& 4294967295 = _ := this
  rw [t]
  congr 2
  omega
theorem r_beyL {S : St} {c : Nat} {v : Nat} (hv : wz S c = v) : ∀ (d k nf : Nat) (b : Bool), k + d = 16 → d < nf → 2 ≤ k → (b = true → 18446744073709551616 ≤ v) → (b = false → ∀ j, 2 ≤ j → j < k → uu (sA S c j) = 0) → F_X12_isBeyond_L4 sh f S 94 c 16 nf (if b = true then 1 else 0) (I k) = some (if 900000000000000000 < v then 1 else 0) := by
  obtain ⟨h, h0, e, hz⟩ := wz_split S c
  have u0 := uu_bd (sA S c 0)
  have u1 := uu_bd (sA S c 1)
  intro d
  induction d with
  | zero =>
    intro k nf b hk hn k2 g1 g2
    obtain ⟨nf, rfl⟩ : ∃ e, nf = e + 1 := ⟨nf - 1, by omega⟩
    have : k = 16 := by omega
    subst this
    rw [F_X12_isBeyond_L4, if_pos (by decide)]
    cases b with
    | true =>
      have := g1 rfl
      rw [if_neg (by decide), if_pos (by omega)]
    | false =>
      have hz0 : h = 0 := hz.mpr (g2 rfl)
      have sg := uu_sg (sA S c 1)
      rw [if_pos (show (if false = true then (1 : Int32) else 0) = 0 by decide), if_neg (by decide)]
      have sg' : (sA S c (1 : Int32).toNatClampNeg < 0) = (2147483648 ≤ uu (sA S c 1)) := by
        show (sA S c 1 < 0) = _
        rw [← I_nle, sg]
        exact propext ⟨fun q => by omega, fun q => by omega⟩
      simp only [sg']
      by_cases q : 2147483648 ≤ uu (sA S c 1)
      · rw [if_pos q, if_pos (by omega)]
      · have vl : v < 9223372036854775808 := by omega
        have lg := (lgz (a := (v : Int)) (c := 900000000000000000) (by omega) (by omega)).2.1
        rw [if_neg q, r_longOf hv vl, Option.bind_some, show (900000000000000000 : Int64) = J 900000000000000000 from rfl]
        simp only [lg]
        by_cases p : (v : Int) ≤ 900000000000000000
        · rw [if_pos p, if_neg (by omega)]
        · rw [if_neg p, if_pos (by omega)]
  | succ d ih =>
    intro k nf b hk hn k2 g1 g2
    obtain ⟨nf, rfl⟩ : ∃ e, nf = e + 1 := ⟨nf - 1, by omega⟩
    have nb : ¬ (I (k : Int) < 0 ∨ 16 ≤ k) := I_bnd (show k < 16 by omega) (by omega)
    rw [F_X12_isBeyond_L4, if_neg (by rw [show (16 : Int32) = I ((16 : Nat) : Int) from rfl, I_leN (by omega) (by omega)]; omega)]
    cases b with
    | true =>
      rw [if_pos rfl, if_neg (by decide)]
      simp only [bnd, I_suc]
      have := ih (k + 1) nf true (by omega) (by omega) (by omega) g1 (fun q => absurd q (by decide))
      rw [if_pos rfl] at this
      exact this
    | false =>
      have q0 := uu_0 (sA S c k)
      rw [if_pos (show (if false = true then (1 : Int32) else 0) = 0 by decide), I_clN (show k < _ by omega), if_neg nb, bnd, bnd, I_suc]
      simp only [q0]
      by_cases z : uu (sA S c k) = 0
      · rw [if_pos z]
        have := ih (k + 1) nf false (by omega) (by omega) (by omega) (fun q => absurd q (by decide)) (fun _ j j1 j2 => by
          by_cases e : j = k
          · rw [e]; exact z
          · exact g2 rfl j j1 (by omega))
        rw [if_neg (by decide)] at this
        exact this
      · rw [if_neg z]
        have hn0 : h ≠ 0 := fun q => z (hz.mp q k (by omega) (by omega))
        have := ih (k + 1) nf true (by omega) (by omega) (by omega) (fun _ => by omega) (fun q => absurd q (by decide))
        rw [if_pos rfl] at this
        exact this
theorem r_beyond (hf : 1000 ≤ f) {S : St} {c : Nat} {v : Nat} (hv : wz S c = v) : F_X12_isBeyond sh f S 94 c 16 = some (if 900000000000000000 < v then 1 else 0) := by
  have := r_beyL (sh := sh) (f := f) hv 14 2 f false (by omega) (by omega) (by omega) (fun q => absurd q (by decide)) (fun _ j j1 j2 => by omega)
  rw [if_neg (by decide)] at this
  exact this
/-- what is told of a fraction -/
def toldV (t : Int) (l : Nat) (b : Bool) : Int64 := if 900000000000000000 < t.natAbs ∨ 900000000000000000 < l then -9223372036854775808 else if b = true then J l else J t
theorem r_told (hf : 1000 ≤ f) (S : St) {t : Int} {l : Nat} (h : frC S t l) (tl : t.natAbs < 2 ^ 511) (b : Int32) : ∃ S', F_X12_told sh f S 94 b = some (toldV t l (b != 0), S') ∧ lwF S S' := by
  have w : W5 = (4294967296 : Int) ^ 16 := rfl
  have sg : (0 ≤ sA S (94 + 50) (15 : Int32).toNatClampNeg) = (0 ≤ t) := by
    have := wz_sign S 144
    rw [h.1, emn tl] at this
    exact this
  have core : ∀ (T : St) (z : Int32), wz T 144 = t.natAbs → wz T 145 = l → (z = 0 ∧ 0 ≤ t ∨ z = 1 ∧ t < 0) → F_X12_told_L27 sh f 94 b T z = some (toldV t l (b != 0), T) := by
    intro T z w1 w2 hz
    have y1 : F_X12_isBeyond sh f T 94 (94 + 50) 16 = _ := r_beyond (sh := sh) hf w1
    have y2 : F_X12_isBeyond sh f T 94 (94 + 51) 16 = _ := r_beyond (sh := sh) hf w2
    unfold F_X12_told_L27 toldV
    simp only [y1, y2, Option.bind_some]
    by_cases c1 : 900000000000000000 < t.natAbs
    · rw [if_pos c1, if_neg (by decide), if_pos (Or.inl c1)]
    · rw [if_neg c1, if_pos rfl]
      by_cases c2 : 900000000000000000 < l
      · rw [if_pos c2, if_neg (by decide), if_pos (Or.inr c2)]
      · have l1 : F_X12_longOf sh f T (94 + 50) 16 = _ := r_longOf (sh := sh) (f := f) w1 (by omega)
        have l2 : F_X12_longOf sh f T (94 + 51) 16 = _ := r_longOf (sh := sh) (f := f) w2 (by omega)
        rw [if_neg c2, if_pos rfl, if_neg (show ¬ (900000000000000000 < t.natAbs ∨ 900000000000000000 < l) from fun q => q.elim c1 c2)]
        by_cases bz : b = 0
        · rw [if_pos bz, if_neg (show ¬ ((b != 0) = true) by rw [bz]; decide), l1, Option.bind_some, Option.bind_some]
          rcases hz with ⟨z0, t0⟩ | ⟨z1, t0⟩
          · rw [if_pos z0, nab_p t0]
          · rw [if_neg (by rw [z1]; decide), J_neg, nab_n (by omega)]
        · rw [if_neg bz, l2, Option.bind_some, if_pos (bne_iff_ne.mpr bz)]
  unfold F_X12_told
  rw [if_neg (by decide)]
  simp only [sg]
  by_cases c : 0 ≤ t
  · rw [if_pos c]
    unfold F_X12_told_L15
    rw [if_pos rfl, core S 0 (by rw [h.1, Int.emod_eq_of_lt c (by omega)]; omega) h.2 (Or.inl ⟨rfl, c⟩)]
    exact ⟨S, rfl, fun _ _ => Sm.rfl⟩
  · obtain ⟨A, a0, a1, a2⟩ := r_turns (sh := sh) (f := f) (by omega) S 144
    have a0' : F_X12_turns sh f S (94 + 50) 16 = some A := a0
    have wA : wz A 144 = t.natAbs := by
      rw [a1, h.1, ngm, show -t = (t.natAbs : Int) by have := nab_n c; rw [← this, Int.neg_neg, this]]
      exact Int.emod_eq_of_lt (by omega) (by omega)
    rw [if_neg c]
    unfold F_X12_told_L15
    rw [if_neg (by decide), a0', Option.bind_some, core A 1 wA (by rw [wz_sm (a2 145 (by omega)), h.2]) (Or.inr ⟨rfl, by omega⟩)]
    exact ⟨A, rfl, fun x hx => a2 x (by omega)⟩
end B8a
