section AZa
variable {sh : List Sh} {f : Nat} {p1 p2 p3 p4 p5 p6 p7 : Int32}
theorem r_sm18 {V i : Nat} {S : St} {U : Nat → Nat} (hi : i < 200) (hV : V ≤ 3) (h1 : sI S 111 1 = I V) (hr : ∀ a, a < V → sA S 114 (3 * i + a) = I (U a)) : ∀ (d k nf : Nat) (T : St), k + d = V → d < nf → fr [] [142] S T → (∀ a, a < k → sA T 142 a = I (U a)) → ∃ T', F_X12_same_L18 sh f 94 (I i) p2 p3 p4 p5 p6 p7 nf T (I k) = F_X12_same_L18 sh f 94 (I i) p2 p3 p4 p5 p6 p7 1 T' (I V) ∧ fr [] [142] S T' ∧ ∀ a, a < V → sA T' 142 a = I (U a) := by
  intro d
  induction d with
  | zero =>
    intro k nf T hk hn F g
    obtain ⟨nf, rfl⟩ : ∃ e, nf = e + 1 := ⟨nf - 1, by omega⟩
    have : k = V := by omega
    subst this
    have s1 : sI T (94 + 17) 1 = I k := ((F.2.2.2 111 (by decide) (by decide)).I 1).trans h1
    refine ⟨T, ?_, F, g⟩
    rw [F_X12_same_L18, if_pos (by rw [s1, I_leN (by omega) (by omega)]; omega), F_X12_same_L18, if_pos (by rw [s1, I_leN (by omega) (by omega)]; omega)]
  | succ d ih =>
    intro k nf T hk hn F g
    obtain ⟨nf, rfl⟩ : ∃ e, nf = e + 1 := ⟨nf - 1, by omega⟩
    have s1 : sI T (94 + 17) 1 = I V := ((F.2.2.2 111 (by decide) (by decide)).I 1).trans h1
    have m3 : (3 : Int32) * I (i : Int) + I (k : Int) = I ((3 * i + k : Nat) : Int) := by rw [show (3 : Int32) = I 3 from rfl, I_mul, I_add]; rfl
    have r1 : sA T (94 + 17 + 3) (3 * i + k) = I (U k) := (F.A (by decide) (by decide) _).trans (hr k (by omega))
    rw [F_X12_same_L18, s1, if_neg (by rw [I_leN (by omega) (by omega)]; omega), m3, I_clN (show 3 * i + k < _ by omega), if_neg (I_bnd (show 3 * i + k < 600 by omega) (by omega)), I_clN (show k < _ by omega), if_neg (I_bnd (show k < 3 by omega) (by omega)), r1]
    simp only [bnd, I_suc]
    refine ih (k + 1) nf (uA T 142 k (I (U k))) (by omega) (by omega) (F.uA _ _ (by decide)) (fun a ha => ?_)
    rw [sA_uA, if_pos rfl, up1_if]
    by_cases e : a = k
    · rw [if_pos e, e]
    · rw [if_neg e]; exact g a (by omega)
theorem r_sm121 {L : Nat} {av : Nat → Int} {T0 : St} (L12 : L ≤ 12) (h25 : sI T0 94 25 = I L) (ha : ∀ j, j < 6 → sA T0 143 j = I (av j) ∧ -2147483648 ≤ av j ∧ av j < 2147483648) : ∀ (d k nf : Nat) (T : St), k + d = L → d < nf → fr [] [134] T0 T → (∀ x, x < k → 0 ≤ av (x / 2) ∧ sA T 134 x = I (dgN av x)) → ∃ T', fr [] [134] T0 T' ∧ ((∀ x, x < L → 0 ≤ av (x / 2) ∧ sA T' 134 x = I (dgN av x)) ∧ F_X12_same_L121 sh f 94 p1 p2 p3 p4 p5 p6 p7 nf T (I k) = F_X12_same_L185 sh f 94 p1 p2 p3 p4 p5 p6 p7 f T' 0 ∨ (∃ x, x < L ∧ ¬ 0 ≤ av (x / 2)) ∧ F_X12_same_L121 sh f 94 p1 p2 p3 p4 p5 p6 p7 nf T (I k) = some (-2, T')) := by
  intro d
  induction d with
  | zero =>
    intro k nf T hk hn F g
    obtain ⟨nf, rfl⟩ : ∃ e, nf = e + 1 := ⟨nf - 1, by omega⟩
    have : k = L := by omega
    subst this
    refine ⟨T, F, Or.inl ⟨g, ?_⟩⟩
    rw [F_X12_same_L121, F.I (by decide), h25, if_pos (by rw [I_leN (by omega) (by omega)]; omega)]
  | succ d ih =>
    intro k nf T hk hn F g
    obtain ⟨nf, rfl⟩ : ∃ e, nf = e + 1 := ⟨nf - 1, by omega⟩
    obtain ⟨a1, a2, a3⟩ := ha (k / 2) (by omega)
    have dv : I (k : Int) / 2 = I ((k / 2 : Nat) : Int) := by
      rw [show (2 : Int32) = I 2 from rfl, I_div (by omega) (by omega)]
      rfl
    have tb : sA T (94 + 49) (k / 2) = I (av (k / 2)) := (F.A (by decide) (by decide) _).trans a1
    rw [F_X12_same_L121, F.I (by decide), h25, if_neg (by rw [I_leN (by omega) (by omega)]; omega), dv, I_clN (show k / 2 < _ by omega), if_neg (I_bnd (show k / 2 < 6 by omega) (by omega)), tb]
    simp only [bnd]
    by_cases n : 0 ≤ av (k / 2)
    · obtain ⟨z, hz⟩ : ∃ z : Nat, av (k / 2) = (z : Int) := ⟨(av (k / 2)).toNat, by omega⟩
      have cz : (I (k : Int)).toNatClampNeg = k := I_clN (by omega)
      have nb : ¬ (I (k : Int) < 0 ∨ 12 ≤ k) := I_bnd (show k < 12 by omega) (by omega)
      have d100 : I (z : Int) / 100 = I ((z / 100 : Nat) : Int) := by
        rw [show (100 : Int32) = I 100 from rfl, I_div (by omega) (by omega)]
        rfl
      have m100 : I (z : Int) - I ((z / 100 : Nat) : Int) * 100 = I ((z % 100 : Nat) : Int) := by
        rw [show (100 : Int32) = I 100 from rfl, I_mul, I_sub]
        congr 1
        omega
      have m2 : I (k : Int) - I ((k / 2 : Nat) : Int) * 2 = I ((k % 2 : Nat) : Int) := by
        rw [show (2 : Int32) = I 2 from rfl, I_mul, I_sub]
        congr 1
        omega
      rw [hz, if_pos (by rw [show (0 : Int32) = I ((0 : Nat) : Int) from rfl, I_leN (by omega) (by omega)]; omega), m2, d100, m100, I_suc]
      simp only [cz, if_neg nb]
      rw [show (0 : Int32) = I ((0 : Nat) : Int) from rfl, ite_eqN (by omega) (by omega)]
      have st : ∀ v : Nat, v = dgN av k → (∀ x, x < k + 1 → 0 ≤ av (x / 2) ∧ sA (uA T 134 k (I (v : Int))) 134 x = I (dgN av x)) := fun v hv x hx => by
        rw [sA_uA, if_pos rfl, up1_if]
        by_cases e : x = k
        · rw [if_pos e, e, hv]; exact ⟨n, rfl⟩
        · rw [if_neg e]; exact g x (by omega)
      by_cases c : k % 2 = 0
      · rw [if_pos c]
        exact ih (k + 1) nf _ (by omega) (by omega) (F.uA _ _ (by decide)) (st (z / 100) (by unfold dgN; rw [if_pos c, hz]; rfl))
      · rw [if_neg c]
        exact ih (k + 1) nf _ (by omega) (by omega) (F.uA _ _ (by decide)) (st (z % 100) (by unfold dgN; rw [if_neg c, hz]; rfl))
    · rw [if_neg (by rw [show (0 : Int32) = I 0 from rfl, I_le (by omega) (by omega)]; omega)]
      exact ⟨T, F, Or.inr ⟨⟨k, by omega, n⟩, rfl⟩⟩
theorem r_sm185 {L : Nat} {τ : Nat → Nat} {T : St} (L12 : L ≤ 12) (h25 : sI T 94 25 = I L) (ha : ∀ x, x < L → sA T 134 x = I (τ x) ∧ τ x < 2147483648) : ∀ (d k nf : Nat), k + d = L → d < nf → (∀ x, x < k → τ x < L ∧ τ x ≠ x ∧ τ (τ x) = x) → (∀ x, x < L → τ x < L ∧ τ x ≠ x ∧ τ (τ x) = x) ∧ F_X12_same_L185 sh f 94 p1 p2 p3 p4 p5 p6 p7 nf T (I k) = F_X12_same_L185 sh f 94 p1 p2 p3 p4 p5 p6 p7 1 T (I L) ∨ (∃ x, x < L ∧ ¬ (τ x < L ∧ τ x ≠ x ∧ τ (τ x) = x)) ∧ F_X12_same_L185 sh f 94 p1 p2 p3 p4 p5 p6 p7 nf T (I k) = some (-2, T) := by
  intro d
  induction d with
  | zero =>
    intro k nf hk hn g
    obtain ⟨nf, rfl⟩ : ∃ e, nf = e + 1 := ⟨nf - 1, by omega⟩
    have : k = L := by omega
    subst this
    refine Or.inl ⟨g, ?_⟩
    rw [F_X12_same_L185, if_pos (by rw [h25, I_leN (by omega) (by omega)]; omega), F_X12_same_L185, if_pos (by rw [h25, I_leN (by omega) (by omega)]; omega)]
  | succ d ih =>
    intro k nf hk hn g
    obtain ⟨nf, rfl⟩ : ∃ e, nf = e + 1 := ⟨nf - 1, by omega⟩
    obtain ⟨a1, a2⟩ := ha k (by omega)
    have a1' : sA T (94 + 40) k = I (τ k) := a1
    have nb : ¬ (I (k : Int) < 0 ∨ 12 ≤ k) := I_bnd (show k < 12 by omega) (by omega)
    rw [F_X12_same_L185, h25, if_neg (by rw [I_leN (by omega) (by omega)]; omega), I_clN (show k < _ by omega), if_neg nb, a1', ite_leN (by omega) (by omega)]
    by_cases c1 : L ≤ τ k
    · rw [if_pos c1]
      exact Or.inr ⟨⟨k, by omega, fun q => by omega⟩, rfl⟩
    · rw [if_neg c1, if_neg nb, ite_eqN (by omega) (by omega)]
      by_cases c2 : τ k = k
      · rw [if_pos c2]
        exact Or.inr ⟨⟨k, by omega, fun q => q.2.1 c2⟩, rfl⟩
      · obtain ⟨b1, b2⟩ := ha (τ k) (by omega)
        have b1' : sA T (94 + 40) (τ k) = I (τ (τ k)) := b1
        rw [if_neg c2, if_neg nb, I_clN (show τ k < _ by omega), if_neg (I_bnd (show τ k < 12 by omega) (by omega)), b1', ite_eqN (by omega) (by omega)]
        by_cases c3 : τ (τ k) = k
        · rw [if_pos c3]
          simp only [bnd, I_suc]
          exact ih (k + 1) nf (by omega) (by omega) (fun x hx => by
            by_cases e : x = k
            · rw [e]; exact ⟨by omega, c2, c3⟩
            · exact g x (by omega))
        · rw [if_neg c3]
          exact Or.inr ⟨⟨k, by omega, fun q => c3 q.2.2⟩, rfl⟩
end AZa
