/-! THE REFERENCE'S LONG NUMBERS: sixteen words; adds, turns, times. -/
section B3a
def un (x : Int32) : Nat := x.toBitVec.toNat
theorem un_uu (x : Int32) : uu x = (un x : Int) := rfl
theorem un_lt (x : Int32) : un x < 4294967296 := x.toBitVec.isLt
theorem un_w1 (x : Int32) : x.toInt64 &&& 4294967295 = J ((un x : Nat) : Int) := uu_w1 x
abbrev W5 : Int := 4294967296 ^ 16
/-- the carries of a sum of digits, and its digits -/
def cr (x : Nat → Nat) (c0 : Nat) : Nat → Nat
  | 0 => c0
  | k + 1 => (cr x c0 k + x k) / 4294967296
def cy (x : Nat → Nat) (c0 : Nat) (k : Nat) : Int32 := (J ((cr x c0 k + x k : Nat) : Int)).toInt32
theorem cr_le {x : Nat → Nat} {c0 b : Nat} (h0 : c0 ≤ b) (h : ∀ k, x k ≤ b * 4294967295) : ∀ k, cr x c0 k ≤ b
  | 0 => h0
  | k + 1 => by
    have := cr_le h0 h k
    have := h k
    rw [cr]
    omega
theorem cr_dv {x : Nat → Nat} {c0 b : Nat} (h0 : c0 ≤ b) (hb : b < 2147483648) (h : ∀ k, x k ≤ b * 4294967295) : dv 4294967296 (fun k => uu (cy x c0 k)) 16 = ((c0 : Int) + dv 4294967296 (fun k => (x k : Int)) 16) % W5 := by
  have e : ∀ k, uu (cy x c0 k) = (((cr x c0 k + x k) % 4294967296 : Nat) : Int) := fun k => by
    have a := cr_le h0 h k
    have := h k
    unfold cy
    rw [uu_w2 (by omega)]
  have c := dv_carry (B := 4294967296) (x := fun k => (x k : Int)) (y := fun k => uu (cy x c0 k)) (c := fun k => (cr x c0 k : Int)) (m := 16) (fun k _ => by
    simp only [e k]
    rw [cr]
    omega)
  have b := dv_bd (B := 4294967296) (x := fun k => uu (cy x c0 k)) (by omega) (m := 16) (fun k _ => uu_bd _)
  have c' : (c0 : Int) + dv 4294967296 (fun k => (x k : Int)) 16 = dv 4294967296 (fun k => uu (cy x c0 k)) 16 + (cr x c0 16 : Int) * W5 := c.symm
  rw [c', Int.add_mul_emod_self_right, Int.emod_eq_of_lt b.1 b.2]
/-- what a cell of sixteen words tells -/
def wz (S : St) (c : Nat) : Int := dv 4294967296 (fun k => uu (sA S c k)) 16
theorem wz_bd (S : St) (c : Nat) : 0 ≤ wz S c ∧ wz S c < W5 := dv_bd (by omega) (fun _ _ => uu_bd _)
theorem wz_cg {S S' : St} {c c' : Nat} (h : ∀ k, k < 16 → sA S' c' k = sA S c k) : wz S' c' = wz S c := dv_cg (fun k hk => by rw [h k hk])
theorem wz_sm {S S' : St} {c : Nat} (h : Sm S S' c) : wz S' c = wz S c := wz_cg (fun k _ => h.A k)
theorem wz_cy {S : St} {c : Nat} {x : Nat → Nat} {c0 b : Nat} (h0 : c0 ≤ b) (hb : b < 2147483648) (h : ∀ k, x k ≤ b * 4294967295) (g : ∀ j, j < 16 → sA S c j = cy x c0 j) : wz S c = ((c0 : Int) + dv 4294967296 (fun k => (x k : Int)) 16) % W5 := by
  rw [← cr_dv h0 hb h]
  exact dv_cg (fun k hk => by rw [g k hk])
end B3a
section B3b
variable {sh : List Sh} {f : Nat} {S : St} {c0 c1 : Nat}
theorem r_addsL {A E : Nat → Int32} : ∀ (d k nf : Nat) (T : St), k + d = 16 → d < nf → (∀ j, j < 16 → sA T c0 j = if j < k then cy (fun j => un (A j) + un (E j)) 0 j else A j) → (∀ j, k ≤ j → j < 16 → sA T c1 j = E j) → (∀ y, y ≠ c0 → Sm S T y) → ∃ T', F_X12_adds_L5 sh f c0 16 c1 16 nf T (J (cr (fun j => un (A j) + un (E j)) 0 k : Nat)) (I k) = some T' ∧ (∀ j, j < 16 → sA T' c0 j = cy (fun j => un (A j) + un (E j)) 0 j) ∧ ∀ y, y ≠ c0 → Sm S T' y := by
  intro d
  induction d with
  | zero =>
    intro k nf T hk hn g1 g2 F
    obtain ⟨nf, rfl⟩ : ∃ e, nf = e + 1 := ⟨nf - 1, by omega⟩
    have : k = 16 := by omega
    subst this
    rw [F_X12_adds_L5, if_pos (by decide)]
    exact ⟨T, rfl, fun j hj => by rw [g1 j hj, if_pos hj], F⟩
  | succ d ih =>
    intro k nf T hk hn g1 g2 F
    obtain ⟨nf, rfl⟩ : ∃ e, nf = e + 1 := ⟨nf - 1, by omega⟩
    have nb : ¬ (I (k : Int) < 0 ∨ 16 ≤ k) := I_bnd (show k < 16 by omega) (by omega)
    have a := cr_le (x := fun j => un (A j) + un (E j)) (c0 := 0) (b := 2) (by omega) (fun k => by have := un_lt (A k); have := un_lt (E k); omega) k
    have l1 := un_lt (A k)
    have l2 := un_lt (E k)
    have e1 : sA T c0 k = A k := by rw [g1 k (by omega), if_neg (by omega)]
    have e2 : sA T c1 k = E k := g2 k (by omega) (by omega)
    have sm : J (cr (fun j => un (A j) + un (E j)) 0 k : Nat) + (J (un (A k) : Nat) + J (un (E k) : Nat)) = J ((cr (fun j => un (A j) + un (E j)) 0 k + (un (A k) + un (E k)) : Nat) : Int) := by
      rw [J_add, J_add]
      norm_cast
    rw [F_X12_adds_L5, if_neg (by rw [show (16 : Int32) = I ((16 : Nat) : Int) from rfl, I_leN (by omega) (by omega)]; omega), I_clN (show k < _ by omega), if_neg nb, if_neg nb, e1, e2, un_w1, un_w1, sm]
    simp only [bnd, if_neg nb]
    rw [uu_w3 (by omega), I_suc]
    refine ih (k + 1) nf _ (by omega) (by omega) (fun j hj => ?_) (fun j h1 h2 => ?_) (fun y hy => (F y hy).uA hy)
    · rw [sA_uA, if_pos rfl, up1_if]
      by_cases e : j = k
      · rw [if_pos e, if_pos (by omega), e]
        rfl
      · rw [if_neg e, g1 j hj]
        by_cases q : j < k
        · rw [if_pos q, if_pos (by omega)]
        · rw [if_neg q, if_neg (by omega)]
    · rw [sA_uA]
      by_cases e : c1 = c0
      · rw [if_pos e, up1_if, if_neg (by omega)]
        exact g2 j (by omega) h2
      · rw [if_neg e]
        exact g2 j (by omega) h2
theorem r_adds (hf : 1000 ≤ f) (S : St) (c0 c1 : Nat) : ∃ S', F_X12_adds sh f S c0 16 c1 16 = some S' ∧ wz S' c0 = (wz S c0 + wz S c1) % W5 ∧ ∀ y, y ≠ c0 → Sm S S' y := by
  obtain ⟨T, t0, t1, t2⟩ := r_addsL (sh := sh) (f := f) (S := S) (c0 := c0) (c1 := c1) (A := sA S c0) (E := sA S c1) 16 0 f S (by omega) (by omega) (fun j _ => by rw [if_neg (by omega)]) (fun _ _ _ => rfl) (fun _ _ => Sm.rfl)
  refine ⟨T, t0, ?_, t2⟩
  rw [wz_cy (b := 2) (by omega) (by omega) (fun k => by have := un_lt (sA S c0 k); have := un_lt (sA S c1 k); omega) t1]
  have : dv 4294967296 (fun k => ((un (sA S c0 k) + un (sA S c1 k) : Nat) : Int)) 16 = wz S c0 + wz S c1 := by
    unfold wz
    rw [← dv_add]
    exact dv_cg (fun k _ => by rw [un_uu, un_uu]; norm_cast)
  rw [this]
  congr 1
  omega
theorem r_turnsL {A : Nat → Int32} : ∀ (d k nf : Nat) (T : St), k + d = 16 → d < nf → (∀ j, j < 16 → sA T c0 j = if j < k then cy (fun j => un (A j ^^^ -1)) 1 j else A j) → (∀ y, y ≠ c0 → Sm S T y) → ∃ T', F_X12_turns_L4 sh f c0 16 nf T (J (cr (fun j => un (A j ^^^ -1)) 1 k : Nat)) (I k) = some T' ∧ (∀ j, j < 16 → sA T' c0 j = cy (fun j => un (A j ^^^ -1)) 1 j) ∧ ∀ y, y ≠ c0 → Sm S T' y := by
  intro d
  induction d with
  | zero =>
    intro k nf T hk hn g1 F
    obtain ⟨nf, rfl⟩ : ∃ e, nf = e + 1 := ⟨nf - 1, by omega⟩
    have : k = 16 := by omega
    subst this
    rw [F_X12_turns_L4, if_pos (by decide)]
    exact ⟨T, rfl, fun j hj => by rw [g1 j hj, if_pos hj], F⟩
  | succ d ih =>
    intro k nf T hk hn g1 F
    obtain ⟨nf, rfl⟩ : ∃ e, nf = e + 1 := ⟨nf - 1, by omega⟩
    have nb : ¬ (I (k : Int) < 0 ∨ 16 ≤ k) := I_bnd (show k < 16 by omega) (by omega)
    have a := cr_le (x := fun j => un (A j ^^^ -1)) (c0 := 1) (b := 1) (by omega) (fun k => by have := un_lt (A k ^^^ -1); omega) k
    have l1 := un_lt (A k ^^^ -1)
    have e1 : sA T c0 k = A k := by rw [g1 k (by omega), if_neg (by omega)]
    have sm : J (cr (fun j => un (A j ^^^ -1)) 1 k : Nat) + J (un (A k ^^^ -1) : Nat) = J ((cr (fun j => un (A j ^^^ -1)) 1 k + un (A k ^^^ -1) : Nat) : Int) := by
      rw [J_add]
      norm_cast
    rw [F_X12_turns_L4, if_neg (by rw [show (16 : Int32) = I ((16 : Nat) : Int) from rfl, I_leN (by omega) (by omega)]; omega), I_clN (show k < _ by omega), if_neg nb, e1, un_w1, sm]
    simp only [bnd, if_neg nb]
    rw [uu_w3 (by omega), I_suc]
    refine ih (k + 1) nf _ (by omega) (by omega) (fun j hj => ?_) (fun y hy => (F y hy).uA hy)
    rw [sA_uA, if_pos rfl, up1_if]
    by_cases e : j = k
    · rw [if_pos e, if_pos (by omega), e]
      rfl
    · rw [if_neg e, g1 j hj]
      by_cases q : j < k
      · rw [if_pos q, if_pos (by omega)]
      · rw [if_neg q, if_neg (by omega)]
theorem r_turns (hf : 1000 ≤ f) (S : St) (c0 : Nat) : ∃ S', F_X12_turns sh f S c0 16 = some S' ∧ wz S' c0 = (- wz S c0) % W5 ∧ ∀ y, y ≠ c0 → Sm S S' y := by
  obtain ⟨T, t0, t1, t2⟩ := r_turnsL (sh := sh) (f := f) (S := S) (c0 := c0) (A := sA S c0) 16 0 f S (by omega) (by omega) (fun j _ => by rw [if_neg (by omega)]) (fun _ _ => Sm.rfl)
  refine ⟨T, t0, ?_, t2⟩
  rw [wz_cy (b := 1) (by omega) (by omega) (fun k => by have := un_lt (sA S c0 k ^^^ -1); omega) t1]
  have : dv 4294967296 (fun k => ((un (sA S c0 k ^^^ -1) : Nat) : Int)) 16 = (W5 - 1) - wz S c0 := by
    have e := dv_add (B := 4294967296) (x := fun k => ((un (sA S c0 k ^^^ -1) : Nat) : Int)) (y := fun k => uu (sA S c0 k)) 16
    have e2 : dv 4294967296 (fun k => ((un (sA S c0 k ^^^ -1) : Nat) : Int) + uu (sA S c0 k)) 16 = dv 4294967296 (fun _ => 4294967296 - 1) 16 := dv_cg (fun k _ => by
      rw [← un_uu, uu_not]
      omega)
    rw [e2, dv_top] at e
    have w : W5 = (4294967296 : Int) ^ 16 := rfl
    unfold wz
    omega
  rw [this]
  have : ((1 : Nat) : Int) + ((W5 - 1) - wz S c0) = (- wz S c0) + 1 * W5 := by omega
  rw [this, Int.add_mul_emod_self_right]
end B3b
