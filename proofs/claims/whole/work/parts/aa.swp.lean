/-! THE REFERENCE: a row with legs in each other's place. -/
section AAa
variable {sh : List Sh} {f : Nat} {Y : Ly}
/-- s and s again is nothing; it stays within the legs -/
def inv2 (Y : Ly) (s : Nat → Nat) : Prop := ∀ i, s (s i) = i ∧ (i < yL Y → s i < yL Y) ∧ (¬ i < yL Y → s i = i)
def swC (S : St) (Y : Ly) (s : Nat → Nat) : Prop := ∀ i, i < yL Y → sA S 140 i = I (s i)
theorem r_plain {S : St} (hf : 1000 ≤ f) (ok : yOk Y) (h : sI S 94 25 = I (yL Y)) : ∃ S', F_X12_plainSwap sh f S 94 = some S' ∧ swC S' Y (fun i => i) ∧ fr [] [140] S S' := by
  have L12 := ok.2.2.2.2.2.2.1
  have lp : ∀ (d i nf : Nat) (T : St), i + d = yL Y → d < nf → fr [] [140] S T → (∀ x, x < i → sA T 140 x = I (x : Int)) → ∃ S', F_X12_plainSwap_L2 sh f 94 nf T (I i) = some S' ∧ swC S' Y (fun i => i) ∧ fr [] [140] S S' := by
    intro d
    induction d with
    | zero =>
      intro i nf T h1 h2 fT a
      obtain ⟨nf, rfl⟩ : ∃ e, nf = e + 1 := ⟨nf - 1, by omega⟩
      have : i = yL Y := by omega
      subst this
      rw [F_X12_plainSwap_L2, fT.I (by decide), h, if_pos (by rw [I_leN (by omega) (by omega)]; omega)]
      exact ⟨T, rfl, a, fT⟩
    | succ d ih =>
      intro i nf T h1 h2 fT a
      obtain ⟨nf, rfl⟩ : ∃ e, nf = e + 1 := ⟨nf - 1, by omega⟩
      rw [F_X12_plainSwap_L2, fT.I (by decide), h, if_neg (by rw [I_leN (by omega) (by omega)]; omega), I_clN (by omega), if_neg (I_bnd (show i < 12 by omega) (by omega))]
      simp only [bnd, I_suc]
      refine ih (i + 1) nf (uA T 140 i (I i)) (by omega) (by omega) (fT.uA _ _ (by decide)) (fun x hx => ?_)
      rw [sA_uA, if_pos rfl, up1_if]
      by_cases c : x = i
      · rw [if_pos c, c]
      · rw [if_neg c]
        exact a x (by omega)
  unfold F_X12_plainSwap
  exact lp (yL Y) 0 f S (by omega) (by omega) fr.rfl (fun x hx => by omega)
theorem swC_up {S : St} {s : Nat → Nat} (h : swC S Y s) (i j : Nat) : swC (uA S 140 i (I (j : Int))) Y (up1 s i j) := by
  intro x hx
  rw [sA_uA, if_pos rfl, up1_if, up1_if]
  by_cases c : x = i
  · rw [if_pos c, if_pos c]
  · rw [if_neg c, if_neg c]
    exact h x hx
theorem r_swapped {S : St} {s ρ : Nat → Nat} {k m : Nat} (hf : 1000 ≤ f) (ok : yOk Y) (h : sI S 94 25 = I (yL Y)) (rb : RB S (yHg Y)) (sc : swC S Y s) (s2 : inv2 Y s) (hk : (yHg Y)[k]? = some ρ) (hm : (yHg Y)[m]? = some (cj s s ρ)) : ∃ S', F_X12_swappedRow sh f S 94 (I k) = some (I m, S') ∧ fr [] [134, 141] S S' := by
  have L12 := ok.2.2.2.2.2.2.1
  have kl := (List.getElem?_eq_some_iff.mp hk).1
  have ll := yHg_len ok
  obtain ⟨w, o, c⟩ := (yHg_mem ok).mp (List.mem_of_getElem? hk)
  obtain ⟨w', o', c'⟩ := (yHg_mem ok).mp (List.mem_of_getElem? hm)
  have nb : ¬ (I (k : Int) < 0 ∨ 10395 ≤ k) := by
    rw [show (0 : Int32) = I ((0 : Nat) : Int) from rfl, I_ltN (by omega) (by omega)]
    omega
  have l50 : ∀ (d i nf : Nat) (T : St), i + d = yL Y → d < nf → fr [] [134, 141] S T → (∀ x, x < yL Y → sA T 141 x = I (cj s s ρ x)) → (∀ x, x < i → sA T 134 x = I (cj s s ρ x)) → ∃ S', F_X12_swappedRow_L50 sh f 94 (I k) nf T (I i) = some (I m, S') ∧ fr [] [134, 141] S S' := by
    intro d
    induction d with
    | zero =>
      intro i nf T h1 h2 fT a b
      obtain ⟨nf, rfl⟩ : ∃ e, nf = e + 1 := ⟨nf - 1, by omega⟩
      have : i = yL Y := by omega
      subst this
      have t25 : sI T 94 25 = I (yL Y) := (fT.I (by decide)).trans h
      have rh := r_rowHere (sh := sh) (f := f) (S := T) (ρ := cj s s ρ) hf L12 t25 (fun i hi => ⟨b i hi, by have := (yRw_lt w' hi).1; omega⟩)
      have pe : prm (cj s s ρ) (yL Y) = cj s s ρ := by
        funext x
        unfold prm
        by_cases d : x < yL Y
        · rw [if_pos d]
        · rw [if_neg d, o' x d]
      rw [pe] at rh
      have lt := e12_lt (cj s s ρ)
      have ra := r_rowAt (sh := sh) (r := I m) hf ok (RB_fr fT rb (by decide) (by decide)) (v := e12 (cj s s ρ)) (by omega) (Or.inl ⟨m, _, hm, rfl, rfl⟩)
      rw [F_X12_swappedRow_L50, t25, if_pos (by rw [I_leN (by omega) (by omega)]; omega), rh, Option.bind_some, ra, Option.bind_some]
      exact ⟨T, rfl, fT⟩
    | succ d ih =>
      intro i nf T h1 h2 fT a b
      obtain ⟨nf, rfl⟩ : ∃ e, nf = e + 1 := ⟨nf - 1, by omega⟩
      have t25 : sI T 94 25 = I (yL Y) := (fT.I (by decide)).trans h
      have ti : sA T (94 + 47) i = I (cj s s ρ i) := a i (by omega)
      rw [F_X12_swappedRow_L50, t25, if_neg (by rw [I_leN (by omega) (by omega)]; omega), I_clN (by omega), if_neg (I_bnd (show i < 12 by omega) (by omega)), if_neg (I_bnd (show i < 12 by omega) (by omega)), ti]
      simp only [bnd, I_suc]
      refine ih (i + 1) nf (uA T 134 i (I (cj s s ρ i))) (by omega) (by omega) (fT.uA _ _ (by decide)) (fun x hx => ?_) (fun x hx => ?_)
      · rw [sA_row _ _ _ (by decide)]
        exact a x hx
      · rw [sA_uA, if_pos rfl, up1_if]
        by_cases e : x = i
        · rw [if_pos e, e]
        · rw [if_neg e]
          exact b x (by omega)
  have l12 : ∀ (d i nf : Nat) (T : St), i + d = yL Y → d < nf → fr [] [134, 141] S T → (∀ x, x < yL Y → sA T 134 x = I (ρ x)) → (∀ x, x < i → sA T 141 (s x) = I (s (ρ x))) → ∃ S', F_X12_swappedRow_L12 sh f 94 (I k) nf T (I i) = some (I m, S') ∧ fr [] [134, 141] S S' := by
    intro d
    induction d with
    | zero =>
      intro i nf T h1 h2 fT a b
      obtain ⟨nf, rfl⟩ : ∃ e, nf = e + 1 := ⟨nf - 1, by omega⟩
      have : i = yL Y := by omega
      subst this
      have t25 : sI T 94 25 = I (yL Y) := (fT.I (by decide)).trans h
      rw [F_X12_swappedRow_L12, t25, if_pos (by rw [I_leN (by omega) (by omega)]; omega)]
      refine l50 (yL Y) 0 f T (by omega) (by omega) fT (fun x hx => ?_) (fun x hx => by omega)
      have := b (s x) ((s2 x).2.1 hx)
      rw [(s2 x).1] at this
      exact this
    | succ d ih =>
      intro i nf T h1 h2 fT a b
      obtain ⟨nf, rfl⟩ : ∃ e, nf = e + 1 := ⟨nf - 1, by omega⟩
      have iL : i < yL Y := by omega
      have t25 : sI T 94 25 = I (yL Y) := (fT.I (by decide)).trans h
      have r1 := (yRw_lt w iL).1
      have q1 := (s2 i).2.1 iL
      have q2 := (s2 (ρ i)).2.1 r1
      have t134 : sA T (94 + 40) i = I (ρ i) := a i iL
      have t140 : ∀ x, x < yL Y → sA T (94 + 46) x = I (s x) := fun x hx => (fT.A (by decide) (by decide) x).trans (sc x hx)
      rw [F_X12_swappedRow_L12, t25, if_neg (by rw [I_leN (by omega) (by omega)]; omega), I_clN (show i < _ by omega), if_neg (I_bnd (show i < 12 by omega) (by omega)), if_neg (I_bnd (show i < 12 by omega) (by omega)), t134, I_clN (show ρ i < _ by omega), if_neg (I_bnd (show ρ i < 12 by omega) (by omega)), t140 i iL, I_clN (show s i < _ by omega), if_neg (I_bnd (show s i < 12 by omega) (by omega)), t140 _ r1]
      simp only [bnd, I_suc]
      refine ih (i + 1) nf (uA T 141 (s i) (I (s (ρ i)))) (by omega) (by omega) (fT.uA _ _ (by decide)) (fun x hx => ?_) (fun x hx => ?_)
      · rw [sA_row _ _ _ (by decide)]
        exact a x hx
      · rw [sA_uA, if_pos rfl, up1_if]
        by_cases e : x = i
        · rw [if_pos (by rw [e]), e]
        · have : s x ≠ s i := fun q => e (by rw [← (s2 x).1, q, (s2 i).1])
          rw [if_neg this]
          exact b x (by omega)
  have vk : sL S (94 + 43) k = J (e12 ρ) := rb.2 k ρ hk
  obtain ⟨T, t0, t1, t2⟩ := r_takes (sh := sh) (f := f) (ρ := ρ) hf L12 S h
  unfold F_X12_swappedRow
  rw [I_clN (by omega), if_neg nb, vk, t0, Option.bind_some]
  refine l12 (yL Y) 0 f T (by omega) (by omega) ((fr_of (by decide) t2).mono (by decide) (by decide)) (fun x hx => ?_) (fun x hx => by omega)
  rw [t1 x hx, zz_row L12 (fun i hi => (yRw_lt w hi).1) hx]
end AAa
