/-! halves, compares, longOf. -/
section B5a
theorem uu_half (x y : Int32) : uu ((x.toUInt32 >>> ((1 : Int32).toUInt32 &&& Int32.toUInt32 31)).toInt32 ||| (y <<< ((31 : Int32) &&& 31))) = uu x / 2 + uu y % 2 * 2147483648 := by
  unfold uu
  have lx := x.toBitVec.isLt
  have ly := y.toBitVec.isLt
  rw [Int32.toBitVec_or, BitVec.toNat_or]
  have e1 : (x.toUInt32 >>> ((1 : Int32).toUInt32 &&& Int32.toUInt32 31)).toInt32.toBitVec.toNat = x.toBitVec.toNat / 2 := by
    rw [UInt32.toBitVec_toInt32]
    show (x.toUInt32 >>> ((1 : Int32).toUInt32 &&& Int32.toUInt32 31)).toNat = _
    rw [UInt32.toNat_shiftRight, show ((1 : Int32).toUInt32 &&& Int32.toUInt32 31).toNat % 32 = 1 by decide, Nat.shiftRight_eq_div_pow]
    rfl
  have e2 : (y <<< ((31 : Int32) &&& 31)).toBitVec.toNat = 2 ^ 31 * (y.toBitVec.toNat % 2) := by
    rw [Int32.toBitVec_shiftLeft]
    have : (((31 : Int32) &&& 31).toBitVec.smod 32) = BitVec.ofNat 32 31 := by decide
    rw [this, BitVec.shiftLeft_eq', BitVec.toNat_shiftLeft, BitVec.toNat_ofNat, Nat.mod_eq_of_lt (show 31 < 2 ^ 32 by omega), Nat.shiftLeft_eq]
    omega
  rw [e1, e2, Nat.or_comm, ← Nat.two_pow_add_eq_or_of_lt (by omega)]
  omega
theorem uu_half0 (x : Int32) : uu ((x.toUInt32 >>> ((1 : Int32).toUInt32 &&& Int32.toUInt32 31)).toInt32 ||| (0 : Int32)) = uu x / 2 := by
  have := uu_half x 0
  have e : (0 : Int32) <<< ((31 : Int32) &&& 31) = 0 := by decide
  rw [e] at this
  rw [this]
  have : uu 0 = 0 := rfl
  omega
theorem uu_bit (x : Int32) {k : Nat} (hk : k < 32) : (x.toUInt32 >>> ((I (k : Int)).toUInt32 &&& Int32.toUInt32 31)).toInt32 &&& 1 = I (un x / 2 ^ k % 2 : Nat) := by
  apply I_by (by omega)
  rw [Int32.toBitVec_and, BitVec.toNat_and]
  have e1 : (x.toUInt32 >>> ((I (k : Int)).toUInt32 &&& Int32.toUInt32 31)).toInt32.toBitVec.toNat = un x / 2 ^ k := by
    rw [UInt32.toBitVec_toInt32]
    show (x.toUInt32 >>> ((I (k : Int)).toUInt32 &&& Int32.toUInt32 31)).toNat = _
    have s : ∀ k : Fin 32, ((I (k.val : Int)).toUInt32 &&& Int32.toUInt32 31).toNat % 32 = k.val := by decide +kernel
    rw [UInt32.toNat_shiftRight, s ⟨k, hk⟩, Nat.shiftRight_eq_div_pow]
    rfl
  rw [e1]
  exact Nat.and_one_is_mod _
theorem uu_orb {x : Int32} {b : Nat} (h : uu x % 2 = 0) (hb : b < 2) : uu (x ||| I b) = uu x + b := by
  unfold uu at *
  rw [Int32.toBitVec_or, BitVec.toNat_or, I_nat (by omega)]
  obtain ⟨m, hm⟩ : ∃ m, x.toBitVec.toNat = 2 ^ 1 * m := ⟨x.toBitVec.toNat / 2, by omega⟩
  rw [hm, ← Nat.two_pow_add_eq_or_of_lt (by omega)]
  norm_cast
theorem long_of {x y : Int32} (h : uu x < 2147483648) : (x.toInt64 <<< ((32 : Int32).toInt64 &&& 63)) ||| (y.toInt64 &&& 4294967295) = J (uu x * 4294967296 + uu y) := by
  have lx := uu_bd x
  have ly := uu_bd y
  obtain ⟨a, ha⟩ : ∃ a : Nat, uu x = a := ⟨(uu x).toNat, by omega⟩
  obtain ⟨c, hc⟩ : ∃ c : Nat, uu y = c := ⟨(uu y).toNat, by omega⟩
  have e1 : x = I (a : Int) := uu_eq (by rw [uu_I a (by omega), ha])
  have e2 : x.toInt64 = J (a : Int) := by rw [e1, J_I (by omega)]
  have e3 : (32 : Int32).toInt64 &&& 63 = (J ((32 : Nat) : Int)) &&& 63 := by decide
  rw [e2, uu_w1, hc, e3, J_shl (by omega) (by omega), J_or (by omega) (by omega), ha]
  have : a * 2 ^ 32 ||| c = 2 ^ 32 * a + c := by
    rw [Nat.mul_comm, Nat.two_pow_add_eq_or_of_lt (by omega)]
  rw [this]
  congr 1
  omega
end B5a
section B5b
variable {sh : List Sh} {f : Nat} {S : St} {c0 c1 : Nat}
def hfW (A : Nat → Int32) (k : Nat) : Int := uu (A k) / 2 + (if k + 1 < 16 then uu (A (k + 1)) % 2 * 2147483648 else 0)
theorem r_halvesL {A : Nat → Int32} : ∀ (d k nf : Nat) (T : St), k + d = 16 → d < nf → (∀ j, j < 16 → if j < k then uu (sA T c0 j) = hfW A j else sA T c0 j = A j) → (∀ y, y ≠ c0 → Sm S T y) → ∃ T', F_X12_halves_L2 sh f c0 16 nf T (I k) = some T' ∧ (∀ j, j < 16 → uu (sA T' c0 j) = hfW A j) ∧ ∀ y, y ≠ c0 → Sm S T' y := by
  intro d
  induction d with
  | zero =>
    intro k nf T hk hn g1 F
    obtain ⟨nf, rfl⟩ : ∃ e, nf = e + 1 := ⟨nf - 1, by omega⟩
    have : k = 16 := by omega
    subst this
    rw [F_X12_halves_L2, if_pos (by decide)]
    exact ⟨T, rfl, fun j hj => by have := g1 j hj; rw [if_pos hj] at this; exact this, F⟩
  | succ d ih =>
    intro k nf T hk hn g1 F
    obtain ⟨nf, rfl⟩ : ∃ e, nf = e + 1 := ⟨nf - 1, by omega⟩
    have nb : ¬ (I (k : Int) < 0 ∨ 16 ≤ k) := I_bnd (show k < 16 by omega) (by omega)
    have e1 : sA T c0 k = A k := by have := g1 k (by omega); rw [if_neg (by omega)] at this; exact this
    have st : ∀ x : Int32, uu x = hfW A k → ∀ j, j < 16 → if j < k + 1 then uu (sA (uA T c0 k x) c0 j) = hfW A j else sA (uA T c0 k x) c0 j = A j := fun x hx j hj => by
      rw [sA_uA, if_pos rfl, up1_if]
      by_cases e : j = k
      · rw [if_pos (by omega), if_pos e, e, hx]
      · rw [if_neg e]
        have := g1 j hj
        by_cases q : j < k
        · rw [if_pos q] at this
          rw [if_pos (by omega)]; exact this
        · rw [if_neg q] at this
          rw [if_neg (by omega)]; exact this
    rw [F_X12_halves_L2, if_neg (by rw [show (16 : Int32) = I ((16 : Nat) : Int) from rfl, I_leN (by omega) (by omega)]; omega), I_clN (show k < _ by omega), if_neg nb, I_suc, e1]
    have c16 : ((16 : Int32) ≤ I ((k + 1 : Nat) : Int)) = (16 ≤ k + 1) := by rw [show (16 : Int32) = I ((16 : Nat) : Int) from rfl, I_leN (by omega) (by omega)]
    simp only [c16]
    by_cases c : 16 ≤ k + 1
    · rw [if_pos c, if_neg nb]
      simp only [bnd]
      refine ih (k + 1) nf _ (by omega) (by omega) (st _ ?_) (fun y hy => (F y hy).uA hy)
      unfold hfW
      rw [uu_half0, if_neg (by omega)]
      omega
    · have e2 : sA T c0 (k + 1) = A (k + 1) := by have := g1 (k + 1) (by omega); rw [if_neg (by omega)] at this; exact this
      rw [if_neg c, I_clN (show k + 1 < _ by omega), if_neg (I_bnd (show k + 1 < 16 by omega) (by omega)), if_neg nb, e2]
      simp only [bnd]
      refine ih (k + 1) nf _ (by omega) (by omega) (st _ ?_) (fun y hy => (F y hy).uA hy)
      unfold hfW
      rw [uu_half, if_pos (by omega)]
theorem r_halves (hf : 1000 ≤ f) (S : St) (c0 : Nat) : ∃ S', F_X12_halves sh f S c0 16 = some S' ∧ wz S' c0 = wz S c0 / 2 ∧ ∀ y, y ≠ c0 → Sm S S' y := by
  obtain ⟨T, t0, t1, t2⟩ := r_halvesL (sh := sh) (f := f) (S := S) (c0 := c0) (A := sA S c0) 16 0 f S (by omega) (by omega) (fun j _ => by rw [if_neg (by omega)]) (fun _ _ => Sm.rfl)
  refine ⟨T, t0, ?_, t2⟩
  have c := dv_carry (B := 4294967296) (x := fun k => uu (sA S c0 k)) (y := fun k => uu (sA T c0 k) * 2) (c := fun k => if k < 16 then - (uu (sA S c0 k) % 2) else 0) (m := 16) (fun k hk => by
    rw [t1 k hk, if_pos hk]
    unfold hfW
    by_cases q : k + 1 < 16
    · rw [if_pos q, if_pos q]; omega
    · rw [if_neg q, if_neg q]; omega)
  rw [dv_mul, if_neg (by omega), if_pos (by omega)] at c
  have e1 : wz T c0 = dv 4294967296 (fun k => uu (sA T c0 k)) 16 := rfl
  have e2 : wz S c0 = dv 4294967296 (fun k => uu (sA S c0 k)) 16 := rfl
  omega
theorem r_noLessL : ∀ (d nf : Nat), d < nf → d ≤ 16 → (∀ j, d ≤ j → j < 16 → uu (sA S c0 j) = uu (sA S c1 j)) → F_X12_isNoLess_L3 sh f S c0 16 c1 16 nf (I ((d : Int) - 1)) = some (if wz S c1 ≤ wz S c0 then 1 else 0) := by
  intro d
  induction d with
  | zero =>
    intro nf hn hd g
    obtain ⟨nf, rfl⟩ : ∃ e, nf = e + 1 := ⟨nf - 1, by omega⟩
    have : wz S c0 = wz S c1 := dv_cg (fun k hk => g k (by omega) hk)
    rw [F_X12_isNoLess_L3, if_pos (by decide), if_pos (by omega)]
  | succ d ih =>
    intro nf hn hd g
    obtain ⟨nf, rfl⟩ : ∃ e, nf = e + 1 := ⟨nf - 1, by omega⟩
    have nb : ¬ (I (d : Int) < 0 ∨ 16 ≤ d) := I_bnd (show d < 16 by omega) (by omega)
    have b0 := uu_bd (sA S c0 d)
    have b1 := uu_bd (sA S c1 d)
    have z := lgz (a := uu (sA S c0 d)) (c := uu (sA S c1 d)) (by omega) (by omega)
    rw [F_X12_isNoLess_L3, show ((d + 1 : Nat) : Int) - 1 = (d : Int) by omega, if_neg (by rw [show (0 : Int32) = I ((0 : Nat) : Int) from rfl, I_ltN (by omega) (by omega)]; omega), I_clN (show d < _ by omega), if_neg nb, uu_w1, uu_w1]
    simp only [bnd, if_neg nb, z.2.2.2, z.2.1]
    by_cases c : uu (sA S c0 d) = uu (sA S c1 d)
    · rw [if_pos c, show (-1 : Int32) = I (-1) from rfl, I_add, show (d : Int) + -1 = (d : Int) - 1 by omega]
      refine ih nf (by omega) (by omega) (fun j h1 h2 => ?_)
      by_cases e : j = d
      · rw [e]; exact c
      · exact g j (by omega) h2
    · rw [if_neg c]
      have hx : ∀ (c : Nat) (k : Nat), k < 16 → 0 ≤ uu (sA S c k) ∧ uu (sA S c k) < 4294967296 := fun c k _ => uu_bd _
      by_cases l : uu (sA S c0 d) ≤ uu (sA S c1 d)
      · have := dv_lt (B := 4294967296) (x := fun k => uu (sA S c0 k)) (y := fun k => uu (sA S c1 k)) (i := d) (by omega) (by omega) (m := 16) (by omega) (hx c0) (hx c1) (fun k h1 h2 => g k (by omega) h2)
        have e1 : wz S c0 = dv 4294967296 (fun k => uu (sA S c0 k)) 16 := rfl
        have e2 : wz S c1 = dv 4294967296 (fun k => uu (sA S c1 k)) 16 := rfl
        rw [if_pos l, if_neg (by omega)]
      · have := dv_lt (B := 4294967296) (x := fun k => uu (sA S c1 k)) (y := fun k => uu (sA S c0 k)) (i := d) (by omega) (by omega) (m := 16) (by omega) (hx c1) (hx c0) (fun k h1 h2 => (g k (by omega) h2).symm)
        have e1 : wz S c0 = dv 4294967296 (fun k => uu (sA S c0 k)) 16 := rfl
        have e2 : wz S c1 = dv 4294967296 (fun k => uu (sA S c1 k)) 16 := rfl
        rw [if_neg l, if_pos (by omega)]
theorem r_noLess (hf : 1000 ≤ f) (S : St) (c0 c1 : Nat) : F_X12_isNoLess sh f S c0 16 c1 16 = some (if wz S c1 ≤ wz S c0 then 1 else 0) := r_noLessL 16 f (by omega) (by omega) (fun j h1 h2 => by omega)
end B5b
