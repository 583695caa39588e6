/-! THE FRACTION of the reference. -/
section C1a
variable {sh : List Sh} {f : Nat} {S : St}
theorem r_prm {k : Nat} (hk : k < 4) : F_X12_prime sh f S (I k) = some (I (pQ k : Nat)) := by
  unfold F_X12_prime
  rcases (by omega : k = 0 ∨ k = 1 ∨ k = 2 ∨ k = 3) with rfl | rfl | rfl | rfl
  · rw [if_pos (by decide)]; rfl
  · rw [if_neg (by decide), if_pos (by decide)]; rfl
  · rw [if_neg (by decide), if_neg (by decide), if_pos (by decide)]; rfl
  · rw [if_neg (by decide), if_neg (by decide), if_neg (by decide)]; rfl
theorem r_inv' (hf : 1000 ≤ f) {p x : Nat} (hp : 2 ≤ p ∧ p ≤ 1000039) (hx : x < p) : F_X12_inverse sh f S (I x) (I p) = some (I (ivN x p : Nat)) := by
  rw [r_inv hf hp hx, ivN_e]
theorem tm_md (a : Int) {p : Int} (hp : 0 < p) : (a - a.tdiv p * p) % p = a % p ∧ (a - a.tdiv p * p).natAbs ≤ p.natAbs := by
  constructor
  · rw [Int.emod_eq_emod_iff_emod_sub_eq_zero]
    exact Int.emod_eq_zero_of_dvd ⟨-a.tdiv p, by rw [Int.mul_neg, Int.mul_comm p]; omega⟩
  · rcases tm_cases a hp with ⟨h1, h2⟩ | ⟨h1, h2, h3⟩ | ⟨h1, h2, h3, h4⟩
    · have x := Int.emod_nonneg a (b := p) (by omega)
      have y := Int.emod_lt_of_pos a hp
      omega
    · omega
    · omega
theorem r_cpy (z : Nat) {r : Nat → Int32} : ∀ (d k nf : Nat) (T : St), k + d = 4 → d < nf → (∀ x, x ≠ 156 → Sm S T x) → (∀ j, sA T 155 j = r j) → (∀ j, j < k → sA T 156 j = r j) → ∃ S', F_X12_isFound_L318 sh f 94 nf T (I k) = some (1, S') ∧ (∀ j, j < 4 → sA S' 156 j = r j) ∧ ∀ x, x ≠ 156 → Sm S S' x := by
  intro d
  induction d with
  | zero =>
    intro k nf T hk hn F g1 g2
    obtain ⟨nf, rfl⟩ : ∃ e, nf = e + 1 := ⟨nf - 1, by omega⟩
    have : k = 4 := by omega
    subst this
    rw [F_X12_isFound_L318, if_pos (by decide)]
    exact ⟨T, rfl, g2, F⟩
  | succ d ih =>
    intro k nf T hk hn F g1 g2
    obtain ⟨nf, rfl⟩ : ∃ e, nf = e + 1 := ⟨nf - 1, by omega⟩
    have nb : ¬ (I (k : Int) < 0 ∨ 4 ≤ k) := I_bnd (show k < 4 by omega) (by omega)
    rw [F_X12_isFound_L318, if_neg (by rw [show (4 : Int32) = I ((4 : Nat) : Int) from rfl, I_leN (by omega) (by omega)]; omega), I_clN (show k < _ by omega), if_neg nb, if_neg nb]
    simp only [bnd, I_suc]
    refine ih (k + 1) nf _ (by omega) (by omega) (fun x hx => (F x hx).uA hx) (fun j => ?_) (fun j hj => ?_)
    · rw [sA_uA, if_neg (by omega)]; exact g1 j
    · rw [sA_uA, if_pos rfl, up1_if]
      by_cases y : j = k
      · rw [if_pos y, y]; exact g1 k
      · rw [if_neg y]; exact g2 j (by omega)
/-- what the reference has found -/
def fndS (S S' : St) (r : Nat → Nat) : Prop := sJ S' 94 53 = J (fT r) ∧ sJ S' 94 54 = J (fU r : Nat) ∧ (∀ j, j < 4 → sA S' 156 j = I (r j : Nat)) ∧ (∀ x, x ≠ 94 → x ≠ 156 → Sm S S' x) ∧ (∀ j, sI S' 94 j = sI S 94 j) ∧ (∀ j, sR S' 94 j = sR S 94 j) ∧ ∀ j, j ≠ 53 → j ≠ 54 → sJ S' 94 j = sJ S 94 j
end C1a
