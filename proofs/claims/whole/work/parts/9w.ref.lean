/-! THE REFERENCE: rows taken and told. -/
def rlC (S : St) (Y : Ly) : Prop := sI S 94 25 = I (yL Y) ∧ sI S 94 26 = I ((yN Y + yV Y : Nat) : Int) ∧ (∀ i, i < yL Y → sA S 132 i = I (yK Y i) ∧ sA S 133 i = I (yD Y i)) ∧ ∀ p, p < yV Y → sA S 135 p = I (yS Y p)
theorem rlC_sm {S S' : St} {Y : Ly} (h : rlC S Y) (g : ∀ j, j = 25 ∨ j = 26 → sI S' 94 j = sI S 94 j) (a : ∀ x, x = 132 ∨ x = 133 ∨ x = 135 → Sm S S' x) : rlC S' Y := by
  obtain ⟨h1, h2, h3, h4⟩ := h
  exact ⟨(g 25 (by omega)).trans h1, (g 26 (by omega)).trans h2, fun i hi => ⟨((a 132 (by omega)).A i).trans (h3 i hi).1, ((a 133 (by omega)).A i).trans (h3 i hi).2⟩, fun p hp => ((a 135 (by omega)).A p).trans (h4 p hp)⟩
def prm (ρ : Nat → Nat) (m i : Nat) : Nat := if i < m then ρ i else 99
theorem prm_s (ρ : Nat → Nat) (m : Nat) : up1 (prm ρ m) m (ρ m) = prm ρ (m + 1) := by
  funext i
  rw [up1_if]
  unfold prm
  by_cases c : i = m
  · rw [if_pos c, if_pos (by omega), c]
  · rw [if_neg c]
    by_cases d : i < m
    · rw [if_pos d, if_pos (by omega)]
    · rw [if_neg d, if_neg (by omega)]
section W9w
variable {sh : List Sh} {f L : Nat} {ρ : Nat → Nat}
theorem r_takes (hf : 1000 ≤ f) (hL : L ≤ 12) (S : St) (h : sI S 94 25 = I L) : ∃ S', F_X12_takes sh f S 94 (J (e12 ρ)) = some S' ∧ (∀ i, i < L → sA S' 134 i = I (zz ρ i)) ∧ ∀ x, x ≠ 134 → Sm S S' x := by
  have lt := e12_lt ρ
  have lp : ∀ (d i nf : Nat) (T : St), i + d = L → d < nf → (∀ j, j < i → sA T 134 j = I (zz ρ j)) → (∀ x, x ≠ 134 → Sm S T x) → ∃ S', F_X12_takes_L2 sh f 94 (J (e12 ρ)) nf T (I i) = some S' ∧ (∀ i, i < L → sA S' 134 i = I (zz ρ i)) ∧ ∀ x, x ≠ 134 → Sm S S' x := by
    intro d
    induction d with
    | zero =>
      intro i nf T h1 h2 a fr
      obtain ⟨nf, rfl⟩ : ∃ e, nf = e + 1 := ⟨nf - 1, by omega⟩
      have : i = L := by omega
      subst this
      rw [F_X12_takes_L2, (fr 94 (by omega)).I, h, if_pos (by rw [I_leN (by omega) (by omega)]; omega)]
      exact ⟨T, rfl, a, fr⟩
    | succ d ih =>
      intro i nf T h1 h2 a fr
      obtain ⟨nf, rfl⟩ : ∃ e, nf = e + 1 := ⟨nf - 1, by omega⟩
      have icl : (I (i : Int)).toNatClampNeg = i := I_clN (by omega)
      have e1 : (4 : Int32) * ((11 : Int32) - I i) = I ((4 * (11 - i) : Nat) : Int) := by
        rw [show (4 : Int32) = I 4 from rfl, show (11 : Int32) = I 11 from rfl, I_sub, I_mul]
        congr 1
        omega
      have e2 : (J (e12 ρ) >>> (J ((4 * (11 - i) : Nat) : Int) &&& 63)) = J ((e12 ρ / 2 ^ (4 * (11 - i)) : Nat) : Int) := J_shr (by omega) (by omega)
      have dl : e12 ρ / 2 ^ (4 * (11 - i)) ≤ e12 ρ := Nat.div_le_self _ _
      have key : ∀ d : Nat, d = e12 ρ / 2 ^ (4 * (11 - i)) → (J (d : Int) &&& 15).toInt32 = I ((d % 16 : Nat) : Int) := by
        intro d hd
        rw [show (15 : Int64) = J ((15 : Nat) : Int) from rfl, J_and (by omega) (by omega), show (15 : Nat) = 2 ^ 4 - 1 from rfl, Nat.and_two_pow_sub_one_eq_mod]
        exact Int64.toInt32_ofInt
      have dg := eN_dig (π := zz ρ) (i := i) (m := 12) (by omega) (fun k _ => zz_lt ρ k)
      rw [show 12 - 1 - i = 11 - i by omega] at dg
      have v : ((J (e12 ρ) >>> (((4 : Int32) * ((11 : Int32) - I i)).toInt64 &&& 63)) &&& (15 : Int64)).toInt32 = I (zz ρ i) := by
        rw [e1, J_I (by omega), e2, key _ rfl, Nat.pow_mul, show 2 ^ 4 = 16 from rfl]
        rw [show e12 ρ / 16 ^ (11 - i) % 16 = zz ρ i from dg]
      rw [F_X12_takes_L2, (fr 94 (by omega)).I, h, if_neg (by rw [I_leN (by omega) (by omega)]; omega), icl, if_neg (I_bnd (show i < 12 by omega) (by omega)), v]
      simp only [bnd, I_suc, Nat.reduceAdd]
      refine ih (i + 1) nf _ (by omega) (by omega) (fun j hj => ?_) (fun x hx => (fr x hx).trans (by repeat' (first | exact Sm.rfl | (refine Sm.uI ?_ (by omega)) | (refine Sm.uA ?_ (by omega)) | (refine Sm.uJ ?_ (by omega)) | (refine Sm.uL ?_ (by omega)) | (refine Sm.uR ?_ (by omega)))))
      rw [sA_uA, if_pos rfl, up1_if]
      by_cases c : j = i
      · rw [if_pos c, c]
      · rw [if_neg c]
        exact a j (by omega)
  unfold F_X12_takes
  exact lp L 0 f S (by omega) (by omega) (fun j hj => by omega) (fun x _ => Sm.rfl)
theorem r_rowHere (hf : 1000 ≤ f) (hL : L ≤ 12) {S : St} (h : sI S 94 25 = I L) (a : ∀ i, i < L → sA S 134 i = I (ρ i) ∧ ρ i < 12) : F_X12_rowHere sh f S 94 = some (J (e12 (prm ρ L))) := by
  have lp : ∀ (d i nf : Nat), i + d = L → d < nf → F_X12_rowHere_L4 sh f S 94 nf (J (e12 (prm ρ i))) (I i) = some (J (e12 (prm ρ L))) := by
    intro d
    induction d with
    | zero =>
      intro i nf h1 h2
      obtain ⟨nf, rfl⟩ : ∃ e, nf = e + 1 := ⟨nf - 1, by omega⟩
      have : i = L := by omega
      subst this
      rw [F_X12_rowHere_L4, h, if_pos (by rw [I_leN (by omega) (by omega)]; omega)]
    | succ d ih =>
      intro i nf h1 h2
      obtain ⟨nf, rfl⟩ : ∃ e, nf = e + 1 := ⟨nf - 1, by omega⟩
      have icl : (I (i : Int)).toNatClampNeg = i := I_clN (by omega)
      obtain ⟨a1, a2⟩ := a i (by omega)
      have v : (I (ρ i : Int)).toInt64 <<< (((4 : Int32) * ((11 : Int32) - I i)).toInt64 &&& 63) = J ((ρ i * 16 ^ (11 - i) : Nat) : Int) := by
        have := c_inRow (sh := sh) (f := f) (S := S) (i := i) (j := ρ i) (by omega) (by omega)
        unfold F_X4_inRow at this
        exact Option.some.inj this
      have l0 := e12_lt (prm ρ i)
      have up := e12_up (π := prm ρ i) (i := i) (j := ρ i) (by omega) a2 (by unfold prm; rw [if_neg (by omega)])
      rw [prm_s] at up
      rw [F_X12_rowHere_L4, h, if_neg (by rw [I_leN (by omega) (by omega)]; omega), icl, if_neg (I_bnd (show i < 12 by omega) (by omega))]
      simp only [Nat.reduceAdd, a1, v, bnd, I_suc]
      rw [J_or (by omega) (nib_lt (by omega)), ← up]
      exact ih (i + 1) nf (by omega) (by omega)
  have z : (0 : Int64) = J (e12 (prm ρ 0) : Int) := by
    have : prm ρ 0 = fun _ => 99 := by funext i; unfold prm; rw [if_neg (by omega)]
    rw [this]
    decide
  unfold F_X12_rowHere
  rw [z]
  exact lp L 0 f (by omega) (by omega)
end W9w
