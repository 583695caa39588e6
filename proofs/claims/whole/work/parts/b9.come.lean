/-! COMES: a term of a drawing is added to the sum. -/
section B9a
theorem mme (a b n : Int) : (a % n * b) % n = (a * b) % n := by
  rw [Int.mul_emod (a % n) b n, Int.emod_emod_of_dvd a (Int.dvd_refl n), ← Int.mul_emod]
theorem aee (a b n : Int) : (a % n + b % n) % n = (a + b) % n := (Int.add_emod a b n).symm
theorem fr_lw {S S' : St} (h : lwF S S') : fr [] [144, 145, 146, 147, 148, 149, 150] S S' := ⟨fun j _ => (h 94 (by omega)).I j, (h 94 (by omega)).2.2.2.1, (h 94 (by omega)).2.2.2.2, fun x _ hx => h x (fun q => hx (by simp only [List.mem_cons, List.not_mem_nil, or_false]; omega))⟩
variable {sh : List Sh} {f q i : Nat} {Y : Ly} {S : St} {ρ : Nat → Nat}
theorem shC_lw {S' : St} (h : shC sh S Y ρ q) (g : lwF S S') : shC sh S' Y ρ q := by
  have F := fr_lw g
  obtain ⟨h1, h2, h3, h4, h5, h6, h7⟩ := h
  exact ⟨rlC_fr F h1 (by decide) (by decide) (by decide) (by decide) (by decide), fun i hi => ((g 134 (by omega)).A i).trans (h2 i hi), ((g 94 (by omega)).I 40).trans h3, ((g 94 (by omega)).R 5).trans h4, h5, h6, bkR_fr F (by decide) h6 h7⟩
theorem wr_b (ok : yOk Y) : ∀ p, p ≤ yV Y → (wrN Y p).natAbs ≤ 99 ^ p
  | 0, _ => by simp [wrN]
  | p + 1, h => by
    have ih := wr_b ok p (by omega)
    have w := (ok.1.2.2.2 (yU Y p) (ok.2.2.2.2.1 p (by omega))).2.2
    rw [wrN, Int.natAbs_mul, Nat.pow_succ]
    exact Nat.mul_le_mul ih (by omega)
theorem r_worths (hf : 1000 ≤ f) (ok : yOk Y) (h4 : sR S 94 5 = some q) (h5 : ckX9 sh q = true) (h7 : bkR S q (yB Y)) (hi : i < 200) (e1 : ∀ p, p < yV Y → sA S 114 (3 * i + p) = I (yU Y p)) (s1 : sI S 111 1 = I (yV Y)) : F_X12_worths sh f S 94 111 (I i) = some (I (wrN Y (yV Y))) := by
  have v3 := ok.2.2.2.1
  have lp : ∀ (d p nf : Nat), p + d = yV Y → d < nf → F_X12_worths_L5 sh f S 94 111 (I i) nf (I (wrN Y p)) (I p) = some (I (wrN Y (yV Y))) := by
    intro d
    induction d with
    | zero =>
      intro p nf hp hn
      obtain ⟨nf, rfl⟩ : ∃ e, nf = e + 1 := ⟨nf - 1, by omega⟩
      have : p = yV Y := by omega
      rw [F_X12_worths_L5, s1, if_pos (by rw [I_leN (by omega) (by omega)]; omega), this]
    | succ d ih =>
      intro p nf hp hn
      obtain ⟨nf, rfl⟩ : ∃ e, nf = e + 1 := ⟨nf - 1, by omega⟩
      have m3 : (3 : Int32) * I (i : Int) + I (p : Int) = I ((3 * i + p : Nat) : Int) := by rw [show (3 : Int32) = I 3 from rfl, I_mul, I_add]; rfl
      have e : sA S (111 + 3) (3 * i + p) = I (yU Y p) := e1 p (by omega)
      have ub := ok.2.2.2.2.1 p (by omega)
      have r4 := ok.1.2.1
      have bw := (h7.2.2.2 (yU Y p) ub).2.1
      rw [F_X12_worths_L5, s1, if_neg (by rw [I_leN (by omega) (by omega)]; omega), h4, Option.bind_some, if_pos h5, m3, I_clN (show 3 * i + p < _ by omega), if_neg (I_bnd (show 3 * i + p < 600 by omega) (by omega)), e, I_clN (show yU Y p < _ by omega), if_neg (I_bnd (show yU Y p < 4 by omega) (by omega)), bw]
      simp only [bnd, I_suc]
      rw [I_mul]
      exact ih (p + 1) nf (by omega) (by omega)
  exact lp (yV Y) 0 f (by omega) (by omega)
/-- a fraction told by rests -/
def frM (S : St) (t l : Int) : Prop := wz S 144 = t % W5 ∧ wz S 145 = l % W5
theorem r_c61 (hf : 20000 ≤ f) (ok : yOk Y) (w : yRw Y ρ) {p2 p3 : Int32} : ∀ (d k nf : Nat) (T : St) (t l : Int), k + d = yL Y → d < nf → lwF S T → shC sh T Y ρ q → frM T (t * (hvN Y ρ k : Nat)) (l * (hvN Y ρ k : Nat)) → wz T 146 = wz S 146 → ∃ T', F_X12_comes_L61 sh f 94 111 p2 p3 nf T (I k) = F_X12_comes_L61 sh f 94 111 p2 p3 1 T' (I (yL Y)) ∧ lwF S T' ∧ shC sh T' Y ρ q ∧ frM T' (t * (hvN Y ρ (yL Y) : Nat)) (l * (hvN Y ρ (yL Y) : Nat)) ∧ wz T' 146 = wz S 146 := by
  have L12 := ok.2.2.2.2.2.2.1
  intro d
  induction d with
  | zero =>
    intro k nf T t l hk hn F h m o
    obtain ⟨nf, rfl⟩ : ∃ e, nf = e + 1 := ⟨nf - 1, by omega⟩
    have : k = yL Y := by omega
    subst this
    refine ⟨T, ?_, F, h, m, o⟩
    rw [F_X12_comes_L61, h.1.1, if_pos (by rw [I_leN (by omega) (by omega)]; omega), F_X12_comes_L61, h.1.1, if_pos (by rw [I_leN (by omega) (by omega)]; omega)]
  | succ d ih =>
    intro k nf T t l hk hn F h m o
    obtain ⟨nf, rfl⟩ : ∃ e, nf = e + 1 := ⟨nf - 1, by omega⟩
    rw [F_X12_comes_L61, h.1.1, if_neg (by rw [I_leN (by omega) (by omega)]; omega), r_isInner ok w h (by omega), Option.bind_some, if10]
    by_cases c : inB Y ρ k = true
    · have kl := k_lt ok k
      have k8 := ok.1.1.1
      have kk := ok.1.1.2 (yK Y k) kl
      have hb := (h.2.2.2.2.2.2.2.2.1 (yK Y k) kl).2.1
      have a1 : sA T (94 + 38) k = I (yK Y k) := (h.1.2.2.1 k (by omega)).1
      have nb : ¬ (I (k : Int) < 0 ∨ 12 ≤ k) := I_bnd (show k < 12 by omega) (by omega)
      have nk : ¬ (I (yK Y k : Int) < 0 ∨ 8 ≤ yK Y k) := I_bnd (show yK Y k < 8 by omega) (by omega)
      obtain ⟨U, u0, u1, u2⟩ := r_times (sh := sh) (f := f) (by omega) T 144 (b := (bH (yB Y) (yK Y k) : Int)) (by omega)
      obtain ⟨X, x0, x1, x2⟩ := r_times (sh := sh) (f := f) (by omega) U 145 (b := (bH (yB Y) (yK Y k) : Int)) (by omega)
      have hU := shC_lw h (fun x hx => u2 x (by omega))
      have hX := shC_lw hU (fun x hx => x2 x (by omega))
      have a2 : sA U (94 + 38) k = I (yK Y k) := (hU.1.2.2.1 k (by omega)).1
      have hb2 := (hU.2.2.2.2.2.2.2.2.1 (yK Y k) kl).2.1
      have u0' : F_X12_times sh f T (94 + 50) 16 (I (bH (yB Y) (yK Y k) : Int)) = some U := u0
      have x0' : F_X12_times sh f U (94 + 51) 16 (I (bH (yB Y) (yK Y k) : Int)) = some X := x0
      rw [if_pos c, h.2.2.2.1, Option.bind_some, if_pos h.2.2.2.2.1, I_clN (show k < _ by omega), if_neg nb, a1, I_clN (show yK Y k < _ by omega), if_neg nk, hb, u0', Option.bind_some, hU.2.2.2.1, Option.bind_some, if_pos h.2.2.2.2.1, if_neg nb, a2, I_clN (show yK Y k < _ by omega), if_neg nk, hb2, x0', Option.bind_some]
      simp only [bnd, I_suc]
      have cc := of_decide_eq_true c
      refine ih (k + 1) nf X t l (by omega) (by omega) (fun x hx => ((F x hx).trans (u2 x (by omega))).trans (x2 x (by omega))) hX ⟨?_, ?_⟩ ?_
      · rw [wz_sm (x2 144 (by omega)), u1, m.1, mme, hvN, if_pos cc]
        congr 1
        rw [Int.natCast_mul, Int.mul_assoc]
      · rw [x1, wz_sm (u2 145 (by omega)), m.2, mme, hvN, if_pos cc]
        congr 1
        rw [Int.natCast_mul, Int.mul_assoc]
      · rw [wz_sm (x2 146 (by omega)), wz_sm (u2 146 (by omega)), o]
    · rw [if_neg c]
      simp only [bnd, I_suc]
      have cc : ¬ (yN Y ≤ k ∧ k < ρ k) := fun q => c (decide_eq_true q)
      refine ih (k + 1) nf T t l (by omega) (by omega) F h ?_ o
      rw [hvN, if_neg cc]
      exact m
/-- the numbers that the sum has are small enough -/
def smal (t : Int) (l : Nat) : Prop := t.natAbs < 2 ^ 511 ∧ 0 < l ∧ l < 2 ^ 511
theorem r_comes (hf : 20000 ≤ f) (ok : yOk Y) (w : yRw Y ρ) (h : shC sh S Y ρ q) (hi : i < 200) (e1 : ∀ p, p < yV Y → sA S 114 (3 * i + p) = I (yU Y p)) (s1 : sI S 111 1 = I (yV Y)) (e5 : sA S 116 i = I (yNa Y)) {t : Int} {l : Nat} {many : Int} (hm : -2147483648 < many ∧ many < 2147483648) (c : frC S t l) (sm : smal (t * (yNa Y : Nat) * (hvN Y ρ (yL Y) : Nat) + l * many * wrN Y (yV Y)) (l * yNa Y * hvN Y ρ (yL Y))) : ∃ S' t' l', F_X12_comes sh f S 94 111 (I i) (I many) = some S' ∧ frC S' t' l' ∧ t' * ((l * yNa Y * hvN Y ρ (yL Y) : Nat) : Int) = (t * (yNa Y : Nat) * (hvN Y ρ (yL Y) : Nat) + l * many * wrN Y (yV Y)) * l' ∧ Nat.gcd t'.natAbs l' = 1 ∧ 0 < l' ∧ shC sh S' Y ρ q ∧ lwF S S' := by
  have v3 := ok.2.2.2.1
  have L12 := ok.2.2.2.2.2.2.1
  have nb := yNa_b ok
  have wb := wr_b ok (yV Y) (Nat.le_refl _)
  have wb3 : 99 ^ yV Y ≤ 99 ^ 3 := Nat.pow_le_pow_right (by omega) (by omega)
  obtain ⟨A, a0, a1, a2⟩ := r_wcopies (sh := sh) (f := f) (by omega) S (c0 := 146) (c1 := 145) (by omega)
  obtain ⟨B, b0, b1, b2⟩ := r_times (sh := sh) (f := f) (by omega) A 146 hm
  have hA := shC_lw h (fun x hx => a2 x (by omega))
  have hB := shC_lw hA (fun x hx => b2 x (by omega))
  have kB : ∀ x, ¬ (144 ≤ x ∧ x ≤ 150) → Sm S B x := fun x hx => (a2 x (by omega)).trans (b2 x (by omega))
  have wo := r_worths (sh := sh) (f := f) (by omega) ok hB.2.2.2.1 hB.2.2.2.2.1 hB.2.2.2.2.2.2 hi (fun p hp => ((kB 114 (by omega)).A _).trans (e1 p hp)) (((kB 111 (by omega)).I 1).trans s1)
  obtain ⟨C, d0, d1, d2⟩ := r_times (sh := sh) (f := f) (by omega) B 146 (b := wrN Y (yV Y)) (by omega)
  obtain ⟨D, g0, g1, g2⟩ := r_times (sh := sh) (f := f) (by omega) C 144 (b := (yNa Y : Int)) (by omega)
  obtain ⟨E, n0, n1, n2⟩ := r_times (sh := sh) (f := f) (by omega) D 145 (b := (yNa Y : Int)) (by omega)
  have hC := shC_lw hB (fun x hx => d2 x (by omega))
  have hD := shC_lw hC (fun x hx => g2 x (by omega))
  have hE := shC_lw hD (fun x hx => n2 x (by omega))
  have kE : lwF S E := fun x hx => (((kB x hx).trans (d2 x (by omega))).trans (g2 x (by omega))).trans (n2 x (by omega))
  have wE4 : wz E 144 = (t * (yNa Y : Nat)) % W5 := by
    rw [wz_sm (n2 144 (by omega)), g1, wz_sm (d2 144 (by omega)), wz_sm (b2 144 (by omega)), wz_sm (a2 144 (by omega)), c.1, mme]
  have wE5 : wz E 145 = ((l : Int) * (yNa Y : Nat)) % W5 := by
    rw [n1, wz_sm (g2 145 (by omega)), wz_sm (d2 145 (by omega)), wz_sm (b2 145 (by omega)), wz_sm (a2 145 (by omega)), c.2]
  have wE6 : wz E 146 = ((l : Int) * many * wrN Y (yV Y)) % W5 := by
    rw [wz_sm (n2 146 (by omega)), wz_sm (g2 146 (by omega)), d1, b1, a1, c.2, mme]
  obtain ⟨G, j0, j1, j2, j3, j4⟩ := r_c61 (sh := sh) (f := f) (S := E) (q := q) (p2 := I i) (p3 := I many) hf ok w (yL Y) 0 f E (t * (yNa Y : Nat)) ((l : Int) * (yNa Y : Nat)) (by omega) (by omega) (fun _ _ => Sm.rfl) hE ⟨by rw [wE4, hvN]; simp, by rw [wE5, hvN]; simp⟩ rfl
  obtain ⟨P, o0, o1, o2⟩ := r_adds (sh := sh) (f := f) (by omega) G 144 146
  obtain ⟨sm1, sm2, sm3⟩ := sm
  have w5 : W5 = (4294967296 : Int) ^ 16 := rfl
  have fP : frC P (t * (yNa Y : Nat) * (hvN Y ρ (yL Y) : Nat) + l * many * wrN Y (yV Y)) (l * yNa Y * hvN Y ρ (yL Y)) := by
    refine ⟨?_, ?_⟩
    · rw [o1, j3.1, j4, wE6, aee]
    · rw [wz_sm (o2 145 (by omega)), j3.2, ← Int.natCast_mul, ← Int.natCast_mul]
      exact Int.emod_eq_of_lt (by omega) (by omega)
  obtain ⟨Q, t', l', q0, q1, q2, q3, q4, q5, q6⟩ := r_lowers (sh := sh) (f := f) hf P fP sm1 sm2 sm3
  have a0' : F_X12_copies sh f S (94 + 52) 16 (94 + 51) 16 = some A := a0
  have b0' : F_X12_times sh f A (94 + 52) 16 (I many) = some B := b0
  have d0' : F_X12_times sh f B (94 + 52) 16 (I (wrN Y (yV Y))) = some C := d0
  have g0' : F_X12_times sh f C (94 + 50) 16 (I (yNa Y : Int)) = some D := g0
  have n0' : F_X12_times sh f D (94 + 51) 16 (I (yNa Y : Int)) = some E := n0
  have o0' : F_X12_adds sh f G (94 + 50) 16 (94 + 52) 16 = some P := o0
  have j0' : F_X12_comes_L61 sh f 94 111 (I i) (I many) f E 0 = _ := j0
  have nbi : ¬ (I (i : Int) < 0 ∨ 200 ≤ i) := I_bnd hi (by omega)
  have eC : sA C (111 + 5) i = I (yNa Y) := ((d2 116 (by omega)).A i).trans (((kB 116 (by omega)).A i).trans e5)
  have eD : sA D (111 + 5) i = I (yNa Y) := ((g2 116 (by omega)).A i).trans eC
  unfold F_X12_comes
  rw [a0', Option.bind_some, b0', Option.bind_some, wo, Option.bind_some, d0', Option.bind_some, I_clN (show i < _ by omega), if_neg nbi, eC, g0', Option.bind_some, if_neg nbi, eD, n0', Option.bind_some, j0', F_X12_comes_L61, j2.1.1, if_pos (by rw [I_leN (by omega) (by omega)]; omega), o0', Option.bind_some, q0]
  refine ⟨Q, t', l', rfl, q1, ?_, q4, q5, shC_lw (shC_lw j2 (fun x hx => o2 x (by omega))) q6, fun x hx => (((kE x hx).trans (j1 x hx)).trans (o2 x (by omega))).trans (q6 x hx)⟩
  generalize hg : Nat.gcd _ _ = gg at q2 q3
  rw [q3, Int.natCast_mul]
  conv => rhs; rw [q2]
  grind
end B9a
