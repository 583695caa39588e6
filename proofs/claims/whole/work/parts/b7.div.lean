/-! THE REFERENCE'S division, lowest terms, and what is told. -/
section B7a
theorem dv_at {B : Int} {x : Nat → Int} {i : Nat} : ∀ {m : Nat}, i < m → (∀ k, k < m → 0 ≤ x k) → 0 ≤ B → ∃ h, 0 ≤ h ∧ dv B x m = dv B x i + x i * B ^ i + h * B ^ (i + 1)
  | 0, h, _, _ => by omega
  | m + 1, h, hx, hB => by
    by_cases c : i = m
    · subst c
      exact ⟨0, by omega, by rw [dv]; omega⟩
    · obtain ⟨q, q0, e⟩ := dv_at (i := i) (m := m) (by omega) (fun k hk => hx k (by omega)) hB
      refine ⟨q + x m * B ^ (m - (i + 1)), ?_, ?_⟩
      · have := Int.mul_nonneg (hx m (by omega)) (show 0 ≤ B ^ (m - (i + 1)) from Int.pow_nonneg hB)
        omega
      · rw [dv, e, Int.add_mul, Int.mul_assoc (x m), ← Int.pow_add, show m - (i + 1) + (i + 1) = m by omega]
        omega
theorem wz_bit {S : St} {c v e : Nat} (hv : wz S c = v) (he : e < 512) : un (sA S c (e / 32)) / 2 ^ (e % 32) % 2 = v / 2 ^ e % 2 := by
  obtain ⟨h, h0, eq⟩ := dv_at (B := 4294967296) (x := fun k => uu (sA S c k)) (i := e / 32) (m := 16) (by omega) (fun k _ => (uu_bd _).1) (by omega)
  have lo := dv_bd (B := 4294967296) (x := fun k => uu (sA S c k)) (by omega) (m := e / 32) (fun k _ => uu_bd _)
  obtain ⟨hn, rfl⟩ : ∃ n : Nat, h = n := ⟨h.toNat, by omega⟩
  obtain ⟨ln, hl⟩ : ∃ n : Nat, dv 4294967296 (fun k => uu (sA S c k)) (e / 32) = n := ⟨(dv 4294967296 (fun k => uu (sA S c k)) (e / 32)).toNat, by omega⟩
  have P : ∀ k : Nat, (4294967296 : Int) ^ k = ((4294967296 ^ k : Nat) : Int) := fun k => by
    rw [Int.natCast_pow]
    rfl
  have ev : (v : Int) = ln + (un (sA S c (e / 32)) : Int) * 4294967296 ^ (e / 32) + hn * 4294967296 ^ (e / 32 + 1) := by
    rw [← hv, ← hl]; exact eq
  have ev2 : v = ln + un (sA S c (e / 32)) * 4294967296 ^ (e / 32) + hn * 4294967296 ^ (e / 32 + 1) := by
    rw [P, P, ← Int.natCast_mul, ← Int.natCast_mul, ← Int.natCast_add, ← Int.natCast_add] at ev
    exact Int.natCast_inj.mp ev
  have ll : ln < 4294967296 ^ (e / 32) := by
    have := lo.2
    rw [hl, P] at this
    exact Int.ofNat_lt.mp this
  have p2 : (2 : Nat) ^ e = 4294967296 ^ (e / 32) * 2 ^ (e % 32) := by
    rw [show (4294967296 : Nat) = 2 ^ 32 from rfl, ← Nat.pow_mul, ← Nat.pow_add, show 32 * (e / 32) + e % 32 = e by omega]
  have d1 : v / 4294967296 ^ (e / 32) = un (sA S c (e / 32)) + hn * 4294967296 := by
    have pp : 0 < 4294967296 ^ (e / 32) := Nat.pow_pos (by omega)
    rw [ev2, Nat.pow_succ, show ln + un (sA S c (e / 32)) * 4294967296 ^ (e / 32) + hn * (4294967296 ^ (e / 32) * 4294967296) = ln + 4294967296 ^ (e / 32) * (un (sA S c (e / 32)) + hn * 4294967296) by grind, Nat.add_mul_div_left _ _ pp, Nat.div_eq_of_lt ll, Nat.zero_add]
  rw [p2, ← Nat.div_div_eq_div_mul, d1]
  have k2 : (4294967296 : Nat) = 2 ^ (e % 32) * (2 * 2 ^ (31 - e % 32)) := by
    rw [← Nat.pow_succ', ← Nat.pow_add, show e % 32 + (31 - e % 32 + 1) = 32 by omega]
  have pp : 0 < 2 ^ (e % 32) := Nat.two_pow_pos _
  generalize hw : un (sA S c (e / 32)) = w at *
  have : w + hn * 4294967296 = w + 2 ^ (e % 32) * (hn * (2 * 2 ^ (31 - e % 32))) := by
    have k3 : hn * 4294967296 = hn * (2 ^ (e % 32) * (2 * 2 ^ (31 - e % 32))) := by rw [← k2]
    rw [k3]
    grind
  rw [this, Nat.add_mul_div_left _ _ pp, show w / 2 ^ (e % 32) + hn * (2 * 2 ^ (31 - e % 32)) = w / 2 ^ (e % 32) + 2 * (hn * 2 ^ (31 - e % 32)) by grind]
  omega
theorem wz_or {S : St} {c b : Nat} (h : wz S c % 2 = 0) (hb : b < 2) : wz (uA S c 0 (sA S c 0 ||| I b)) c = wz S c + b := by
  have l := wz_low S c
  have o := uu_orb (x := sA S c 0) (b := b) (by omega) hb
  unfold wz
  rw [dv_low 15, dv_low 15, sA_uA, if_pos rfl, up1_if, if_pos rfl, o]
  have : dv 4294967296 (fun k => uu (up1 (sA S c) 0 (sA S c 0 ||| I b) (k + 1))) 15 = dv 4294967296 (fun k => uu (sA S c (k + 1))) 15 := dv_cg (fun k hk => by rw [up1_if, if_neg (by omega)])
  rw [this]
  omega
theorem wz_sign (S : St) (c : Nat) : (0 ≤ sA S c 15) = (wz S c < 2 ^ 511) := by
  rw [uu_sg]
  have b := dv_bd (B := 4294967296) (x := fun k => uu (sA S c k)) (by omega) (m := 15) (fun k _ => uu_bd _)
  have e : wz S c = dv 4294967296 (fun k => uu (sA S c k)) 15 + uu (sA S c 15) * 4294967296 ^ 15 := rfl
  have w := uu_bd (sA S c 15)
  exact propext ⟨fun h => by omega, fun h => by omega⟩
end B7a
section B7b
variable {sh : List Sh} {f : Nat} {c0 c1 : Nat}
theorem r_div35 (hf : 1000 ≤ f) (h0 : c0 < 148 ∨ 150 < c0) (h1 : c1 < 148 ∨ 150 < c1) {v y : Nat} (y0 : 0 < y) (yl : y < 2 ^ 511) (h01 : c0 ≠ c1) : ∀ (d nf q r : Nat) (T : St), d ≤ 512 → d < nf → wz T c0 = v → wz T c1 = y → wz T 148 = q → wz T 149 = r → wz T 150 = (-(y : Int)) % W5 → v / 2 ^ d = q * y + r → r < y → ∃ T', F_X12_divides_L35 sh f 94 c0 16 c1 16 nf T (I ((d : Int) - 1)) = some T' ∧ wz T' c0 = ((v / y : Nat) : Int) ∧ ∀ x, x ≠ c0 → ¬ (148 ≤ x ∧ x ≤ 150) → Sm T T' x := by
  intro d
  induction d with
  | zero =>
    intro nf q r T hd hn wv wy wq wr wm e rl
    obtain ⟨nf, rfl⟩ : ∃ e, nf = e + 1 := ⟨nf - 1, by omega⟩
    obtain ⟨U, u0, u1, u2⟩ := r_wcopies (sh := sh) (f := f) hf T (c0 := c0) (c1 := 148) (by omega)
    have u0' : F_X12_copies sh f T c0 16 (94 + 54) 16 = some U := u0
    rw [F_X12_divides_L35, if_pos (by decide), u0', Option.bind_some]
    refine ⟨U, rfl, ?_, fun x hx _ => u2 x hx⟩
    rw [u1, wq]
    rw [Nat.pow_zero, Nat.div_one] at e
    have : v / y = q := by
      rw [e, Nat.mul_comm q y, Nat.mul_add_div y0, Nat.div_eq_of_lt rl, Nat.add_zero]
    rw [this]
  | succ d ih =>
    intro nf q r T hd hn wv wy wq wr wm e rl
    obtain ⟨nf, rfl⟩ : ∃ e, nf = e + 1 := ⟨nf - 1, by omega⟩
    have w : W5 = (4294967296 : Int) ^ 16 := rfl
    obtain ⟨U, u0, u1, u2⟩ := r_adds (sh := sh) (f := f) hf T 149 149
    have u0' : F_X12_adds sh f T (94 + 55) 16 (94 + 55) 16 = some U := u0
    have wU : wz U 149 = ((2 * r : Nat) : Int) := by
      rw [u1, wr, show (r : Int) + r = ((2 * r : Nat) : Int) by omega]
      exact Int.emod_eq_of_lt (by omega) (by omega)
    have bt := wz_bit (S := U) (c := c0) (v := v) (e := d) (by rw [wz_sm (u2 c0 (by omega)), wv]) (by omega)
    generalize hb : v / 2 ^ d % 2 = b at *
    have b2 : b < 2 := by omega
    have dv32 : I (d : Int) / 32 = I ((d / 32 : Nat) : Int) := by
      rw [show (32 : Int32) = I 32 from rfl, I_div (by omega) (by omega)]
      rfl
    have md32 : I (d : Int) - I ((d / 32 : Nat) : Int) * 32 = I ((d % 32 : Nat) : Int) := by
      rw [show (32 : Int32) = I 32 from rfl, I_mul, I_sub]
      congr 1
      omega
    have ub := uu_bit (sA U c0 (d / 32)) (k := d % 32) (by omega)
    rw [bt] at ub
    generalize hV : uA U 149 0 (sA U 149 0 ||| I b) = V
    have wV : wz V 149 = ((2 * r + b : Nat) : Int) := by
      rw [← hV, wz_or (by omega) b2, wU]
      omega
    have FV : ∀ x, x ≠ 149 → Sm T V x := fun x hx => by rw [← hV]; exact (u2 x hx).uA hx
    obtain ⟨X, x0, x1, x2⟩ := r_adds (sh := sh) (f := f) hf V 148 148
    have x0' : F_X12_adds sh f V (94 + 54) 16 (94 + 54) 16 = some X := x0
    have e2 : v / 2 ^ d = 2 * (v / 2 ^ (d + 1)) + b := by
      have : v / 2 ^ (d + 1) = v / 2 ^ d / 2 := by rw [Nat.pow_succ, Nat.div_div_eq_div_mul]
      omega
    have vb := wz_bd T c0
    have ql : 2 * q + 1 ≤ v + 1 := by
      have a1 : q ≤ q * y := Nat.le_mul_of_pos_right q y0
      have a2 : 2 * (v / 2 ^ (d + 1)) ≤ v := by
        have : v / 2 ^ d ≤ v := Nat.div_le_self _ _
        omega
      omega
    have wX8 : wz X 148 = ((2 * q : Nat) : Int) := by
      rw [x1, wz_sm (FV 148 (by omega)), wq, show (q : Int) + q = ((2 * q : Nat) : Int) by omega]
      exact Int.emod_eq_of_lt (by omega) (by omega)
    have wX9 : wz X 149 = ((2 * r + b : Nat) : Int) := by rw [wz_sm (x2 149 (by omega)), wV]
    have wXy : wz X c1 = y := by rw [wz_sm (x2 c1 (by omega)), wz_sm (FV c1 (by omega)), wy]
    have wXv : wz X c0 = v := by rw [wz_sm (x2 c0 (by omega)), wz_sm (FV c0 (by omega)), wv]
    have wXm : wz X 150 = (-(y : Int)) % W5 := by rw [wz_sm (x2 150 (by omega)), wz_sm (FV 150 (by omega)), wm]
    have FX : ∀ x, ¬ (148 ≤ x ∧ x ≤ 150) → Sm T X x := fun x hx => (FV x (by omega)).trans (x2 x (by omega))
    have e3 : v / 2 ^ d = 2 * q * y + (2 * r + b) := by
      rw [e2, e]
      grind
    have m1 : I (d : Int) + -1 = I ((d : Int) - 1) := by rw [show (-1 : Int32) = I (-1) from rfl, I_add]; rfl
    rw [F_X12_divides_L35, show ((d + 1 : Nat) : Int) - 1 = (d : Int) by omega, if_neg (by rw [show (0 : Int32) = I ((0 : Nat) : Int) from rfl, I_ltN (by omega) (by omega)]; omega), u0', Option.bind_some, if_neg (by decide), dv32, I_clN (show d / 32 < _ by omega), if_neg (I_bnd (show d / 32 < 16 by omega) (by omega)), if_neg (by decide), md32, ub]
    simp only [bnd]
    rw [show uA U (94 + 55) (0 : Int32).toNatClampNeg (sA U (94 + 55) (0 : Int32).toNatClampNeg ||| I (b : Nat)) = V from hV, x0', Option.bind_some]
    have nl : F_X12_isNoLess sh f X (94 + 55) 16 c1 16 = _ := r_noLess (sh := sh) (f := f) hf X 149 c1
    rw [nl, Option.bind_some, wX9, wXy, if10, m1]
    by_cases c : (y : Int) ≤ ((2 * r + b : Nat) : Int)
    · obtain ⟨Z, z0, z1, z2⟩ := r_adds (sh := sh) (f := f) hf X 149 150
      have z0' : F_X12_adds sh f X (94 + 55) 16 (94 + 56) 16 = some Z := z0
      have wZ9 : wz Z 149 = ((2 * r + b - y : Nat) : Int) := by
        rw [z1, wX9, wXm, Int.add_emod_emod, show ((2 * r + b : Nat) : Int) + -(y : Int) = ((2 * r + b - y : Nat) : Int) by omega]
        exact Int.emod_eq_of_lt (by omega) (by omega)
      have wZ8 : wz Z 148 = ((2 * q : Nat) : Int) := by rw [wz_sm (z2 148 (by omega)), wX8]
      rw [if_pos c, z0', Option.bind_some, if_neg (by decide), if_neg (by decide)]
      have sm : ∀ x, x ≠ 148 → Sm Z (uA Z (94 + 54) (0 : Int32).toNatClampNeg (sA Z (94 + 54) (0 : Int32).toNatClampNeg ||| 1)) x := fun x hx => Sm.rfl.uA hx
      have w8 : wz (uA Z (94 + 54) (0 : Int32).toNatClampNeg (sA Z (94 + 54) (0 : Int32).toNatClampNeg ||| 1)) 148 = ((2 * q + 1 : Nat) : Int) := by
        have := wz_or (S := Z) (c := 148) (b := 1) (by omega) (by omega)
        rw [wZ8] at this
        have e : wz (uA Z (94 + 54) (0 : Int32).toNatClampNeg (sA Z (94 + 54) (0 : Int32).toNatClampNeg ||| 1)) 148 = _ := this
        rw [e]
        omega
      generalize uA Z (94 + 54) (0 : Int32).toNatClampNeg (sA Z (94 + 54) (0 : Int32).toNatClampNeg ||| 1) = Q at *
      obtain ⟨T', t0, t1, t2⟩ := ih nf (2 * q + 1) (2 * r + b - y) Q (by omega) (by omega) (by rw [wz_sm (sm c0 (by omega)), wz_sm (z2 c0 (by omega)), wXv]) (by rw [wz_sm (sm c1 (by omega)), wz_sm (z2 c1 (by omega)), wXy]) w8 (by rw [wz_sm (sm 149 (by omega)), wZ9]) (by rw [wz_sm (sm 150 (by omega)), wz_sm (z2 150 (by omega)), wXm]) (by rw [e3, Nat.add_mul]; omega) (by omega)
      exact ⟨T', t0, t1, fun x hx hy => (((FX x hy).trans (z2 x (by omega))).trans (sm x (by omega))).trans (t2 x hx hy)⟩
    · rw [if_neg c]
      obtain ⟨T', t0, t1, t2⟩ := ih nf (2 * q) (2 * r + b) X (by omega) (by omega) wXv wXy wX8 wX9 wXm e3 (by omega)
      exact ⟨T', t0, t1, fun x hx hy => (FX x hy).trans (t2 x hx hy)⟩
theorem r_divides (hf : 1000 ≤ f) (S : St) (h0 : c0 < 148 ∨ 150 < c0) (h1 : c1 < 148 ∨ 150 < c1) (h01 : c0 ≠ c1) {v y : Nat} (y0 : 0 < y) (yl : y < 2 ^ 511) (wv : wz S c0 = v) (wy : wz S c1 = y) : ∃ S', F_X12_divides sh f S 94 c0 16 c1 16 = some S' ∧ wz S' c0 = ((v / y : Nat) : Int) ∧ ∀ x, x ≠ c0 → ¬ (148 ≤ x ∧ x ≤ 150) → Sm S S' x := by
  obtain ⟨A, a0, a1, a2⟩ := r_set (sh := sh) (f := f) hf S 148 (v := 0) (by omega)
  obtain ⟨B, b0, b1, b2⟩ := r_set (sh := sh) (f := f) hf A 149 (v := 0) (by omega)
  obtain ⟨C, d0, d1, d2⟩ := r_wcopies (sh := sh) (f := f) hf B (c0 := 150) (c1 := c1) (by omega)
  obtain ⟨D, e0, e1, e2⟩ := r_turns (sh := sh) (f := f) hf C 150
  have sm : ∀ x, ¬ (148 ≤ x ∧ x ≤ 150) → Sm S D x := fun x hx => (((a2 x (by omega)).trans (b2 x (by omega))).trans (d2 x (by omega))).trans (e2 x (by omega))
  have vb := wz_bd S c0
  have w : W5 = (4294967296 : Int) ^ 16 := rfl
  have cy : wz B c1 = y := by rw [wz_sm (b2 c1 (by omega)), wz_sm (a2 c1 (by omega)), wy]
  obtain ⟨T, t0, t1, t2⟩ := r_div35 (sh := sh) (f := f) hf h0 h1 y0 yl h01 512 f 0 0 D (by omega) (by omega) (by rw [wz_sm (sm c0 (by omega)), wv]) (by rw [wz_sm (sm c1 (by omega)), wy]) (by rw [wz_sm (e2 148 (by omega)), wz_sm (d2 148 (by omega)), wz_sm (b2 148 (by omega)), a1]) (by rw [wz_sm (e2 149 (by omega)), wz_sm (d2 149 (by omega)), b1]) (by rw [e1, d1, cy]) (by
    have : v < 2 ^ 512 := by omega
    rw [Nat.div_eq_of_lt this, Nat.zero_mul]) y0
  have a0' : F_X12_set sh f S (94 + 54) 16 0 = some A := a0
  have b0' : F_X12_set sh f A (94 + 55) 16 0 = some B := b0
  have d0' : F_X12_copies sh f B (94 + 56) 16 c1 16 = some C := d0
  have e0' : F_X12_turns sh f C (94 + 56) 16 = some D := e0
  have t0' : F_X12_divides_L35 sh f 94 c0 16 c1 16 f D 511 = some T := t0
  unfold F_X12_divides
  rw [a0', Option.bind_some, b0', Option.bind_some, d0', Option.bind_some, e0', Option.bind_some, t0']
  exact ⟨T, rfl, t1, fun x hx hy => (sm x hy).trans (t2 x hx hy)⟩
end B7b
