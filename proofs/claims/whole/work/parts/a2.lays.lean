section A2a
variable {sh : List Sh} {f : Nat} {Y : Ly} {p1 p2 n2 q o : Nat}
theorem r_lays {S : St} (hf : 1000 ≤ f) (v : 1 ≤ yV Y ∧ yV Y ≤ 3) (up : ∀ p, p < yV Y → yU Y p < bR (yB Y)) (bo : bkOk (yB Y)) (ck : ckX9 sh q = true) (hq : q ≠ 94 ∧ ∀ x, x ≤ 10 → q + x ≠ 94 ∧ q + x ≠ 132 ∧ q + x ≠ 133 ∧ q + x ≠ 135) (hp1 : (p1 ≠ 94 ∧ p1 ≠ 132 ∧ p1 ≠ 133 ∧ p1 ≠ 135) ∧ p1 + 1 ≠ 94 ∧ p1 + 1 ≠ 132 ∧ p1 + 1 ≠ 133 ∧ p1 + 1 ≠ 135) (hp2 : p2 ≠ 94 ∧ p2 ≠ 132 ∧ p2 ≠ 133 ∧ p2 ≠ 135) (ho : o + yV Y ≤ n2) (hn2 : n2 < 1000) (s1 : sI S p1 1 = I (yV Y)) (s2 : sI S p1 2 = I (yN Y)) (n6 : yN Y ≤ 6) (ke : ∀ i, i < yN Y → sA S (p1 + 1) i = I (yE Y i)) (r5 : sR S 94 5 = some q) (kr : bkR S q (yB Y)) (ru : ∀ p, p < yV Y → sA S p2 (o + p) = I (yU Y p)) : ∃ r S', F_X12_lays sh f S 94 p1 p2 n2 (I o) = some (r, S') ∧ (yL Y ≤ 12 ∧ yL Y % 2 = 0 → r = 1 ∧ rlC S' Y) ∧ (¬ (yL Y ≤ 12 ∧ yL Y % 2 = 0) → r = 0) ∧ rfr S S' := by
  have lp : ∀ (d i nf : Nat) (T : St), i + d = yN Y → d < nf → rLA S T Y i → ∃ r S', F_X12_lays_L8 sh f 94 p1 p2 n2 (I o) nf T (I i) = some (r, S') ∧ (yL Y ≤ 12 ∧ yL Y % 2 = 0 → r = 1 ∧ rlC S' Y) ∧ (¬ (yL Y ≤ 12 ∧ yL Y % 2 = 0) → r = 0) ∧ rfr S S' := by
    intro d
    induction d with
    | zero =>
      intro i nf T h1 h2 la
      obtain ⟨nf, rfl⟩ : ∃ e, nf = e + 1 := ⟨nf - 1, by omega⟩
      have : i = yN Y := by omega
      subst this
      have fr := la.2.2.2.2 p1 hp1.1.1 hp1.1.2.1 hp1.1.2.2.1 hp1.1.2.2.2
      rw [F_X12_lays_L8, fr.I, s2, if_pos (by rw [I_leN (by omega) (by omega)]; omega)]
      have y0 : yS Y 0 = yN Y := rfl
      exact r_lays39 hf v up bo ck hq hp1.1 hp2 ho hn2 s1 s2 n6 r5 kr ru (yV Y) 0 f T (by omega) (by omega) (by rw [y0]; exact la) (by omega) (fun i hi => by omega)
    | succ d ih =>
      intro i nf T h1 h2 la
      obtain ⟨nf, rfl⟩ : ∃ e, nf = e + 1 := ⟨nf - 1, by omega⟩
      have fr := la.2.2.2.2 p1 hp1.1.1 hp1.1.2.1 hp1.1.2.2.1 hp1.1.2.2.2
      have f1 := la.2.2.2.2 (p1 + 1) hp1.2.1 hp1.2.2.1 hp1.2.2.2.1 hp1.2.2.2.2
      have icl : (I (i : Int)).toNatClampNeg = i := I_clN (by omega)
      have kE : yK Y i = yE Y i := by unfold yK; rw [if_pos (by omega)]
      have dE : yD Y i = i := by unfold yD; rw [if_pos (by omega)]
      obtain ⟨U, u0, u1, u2, u3, u4, u5, u6⟩ := r_puts (sh := sh) (f := f) la.2.1 (show i < 12 by omega) (I (yK Y i)) (I (yD Y i))
      have u0' := u0
      rw [kE, dE] at u0'
      rw [F_X12_lays_L8, fr.I, s2, if_neg (by rw [I_leN (by omega) (by omega)]; omega), icl, if_neg (I_bnd (show i < 6 by omega) (by omega)), f1.A, ke i (by omega), u0', Option.bind_some]
      simp only [bnd, I_suc]
      exact ih (i + 1) nf U (by omega) (by omega) (rLA_put la u1 u2 u3 u4 u5 u6)
  unfold F_X12_lays
  simp only [bnd]
  exact lp (yN Y) 0 f _ (by omega) (by omega) ⟨fun i hi => by omega, sI_self _ _ _ _, fun j a c => by rw [sI_ne _ _ _ a], fun x => ⟨rfl, rfl⟩, fun x a b c e => (by repeat' (first | exact Sm.rfl | (refine Sm.uI ?_ (by omega)) | (refine Sm.uA ?_ (by omega)) | (refine Sm.uJ ?_ (by omega)) | (refine Sm.uL ?_ (by omega)) | (refine Sm.uR ?_ (by omega))))⟩
end A2a
