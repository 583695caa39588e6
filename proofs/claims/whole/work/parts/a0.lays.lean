/-! THE REFERENCE lays a point's legs. -/
section A0a
variable {sh : List Sh} {f : Nat} {Y : Ly} {p1 p2 n2 q p : Nat}
theorem r_lays92 {S : St} {p3 : Int32} (v : 1 ≤ yV Y ∧ yV Y ≤ 3) (hp : p < yV Y) (up : yU Y p < bR (yB Y)) (bo : bkOk (yB Y)) (fit : yS Y p + yZ Y p ≤ 12) (ck : ckX9 sh q = true) (hq : q ≠ 94 ∧ ∀ x, x ≤ 10 → q + x ≠ 94 ∧ q + x ≠ 132 ∧ q + x ≠ 133 ∧ q + x ≠ 135) (hp1 : p1 ≠ 94 ∧ p1 ≠ 132 ∧ p1 ≠ 133 ∧ p1 ≠ 135) (s2 : sI S p1 2 = I (yN Y)) (n6 : yN Y ≤ 6) (r5 : sR S 94 5 = some q) (kr : bkR S q (yB Y)) (k39 : St → Int32 → Option (Int32 × St)) : ∀ (d k nf : Nat) (T : St), k + d = yZ Y p → d < nf → rLA S T Y (yS Y p + k) → ∃ U, rLA S U Y (yS Y (p + 1)) ∧ (∀ i, sA U 135 i = sA T 135 i) ∧ F_X12_lays_L92 sh f 94 p1 p2 n2 p3 k39 nf T (I p) (I (yU Y p)) (I k) = k39 U (I ((p + 1 : Nat) : Int)) := by
  have r4 := bo.2.1
  have z4 := (bo.2.2.2 _ up).2.1
  have eZ : yZ Y p = bZ (yB Y) (yU Y p) := rfl
  have ucl : (I (yU Y p : Int)).toNatClampNeg = yU Y p := I_clN (by omega)
  intro d
  induction d with
  | zero =>
    intro k nf T h1 h2 la
    obtain ⟨nf, rfl⟩ : ∃ e, nf = e + 1 := ⟨nf - 1, by omega⟩
    have hk : k = yZ Y p := by omega
    subst hk
    have T5 : sR T 94 5 = some q := by rw [(la.2.2.2.1 94).1]; exact r5
    have s6 : sA T (q + 6) (yU Y p) = I (yZ Y p) := ((la.2.2.2.2 (q + 6) (hq.2 6 (by omega)).1 (hq.2 6 (by omega)).2.1 (hq.2 6 (by omega)).2.2.1 (hq.2 6 (by omega)).2.2.2).A _).trans (kr.2.2.2 _ up).1
    refine ⟨T, la, fun _ => rfl, ?_⟩
    rw [F_X12_lays_L92, T5, Option.bind_some, if_pos ck, ucl, if_neg (I_bnd (show yU Y p < 4 by omega) (by omega)), s6, if_pos (by rw [I_leN (by omega) (by omega)]; omega)]
    simp only [bnd, I_suc]
  | succ d ih =>
    intro k nf T h1 h2 la
    obtain ⟨nf, rfl⟩ : ∃ e, nf = e + 1 := ⟨nf - 1, by omega⟩
    have T5 : sR T 94 5 = some q := by rw [(la.2.2.2.1 94).1]; exact r5
    have s6 : sA T (q + 6) (yU Y p) = I (yZ Y p) := ((la.2.2.2.2 (q + 6) (hq.2 6 (by omega)).1 (hq.2 6 (by omega)).2.1 (hq.2 6 (by omega)).2.2.1 (hq.2 6 (by omega)).2.2.2).A _).trans (kr.2.2.2 _ up).1
    have s7 : sA T (q + 7) (4 * yU Y p + k) = I (bG (yB Y) (yU Y p) k) := ((la.2.2.2.2 (q + 7) (hq.2 7 (by omega)).1 (hq.2 7 (by omega)).2.1 (hq.2 7 (by omega)).2.2.1 (hq.2 7 (by omega)).2.2.2).A _).trans ((kr.2.2.2 _ up).2.2.2 k (by omega))
    have T2 : sI T p1 2 = I (yN Y) := ((la.2.2.2.2 p1 hp1.1 hp1.2.1 hp1.2.2.1 hp1.2.2.2).I 2).trans s2
    obtain ⟨b1, b2, b3⟩ := pt_b v (i := yS Y p + k) hp (by omega) (by omega)
    have kE : bG (yB Y) (yU Y p) k = yK Y (yS Y p + k) := by rw [k_in b2 b3, b1, show yS Y p + k - yS Y p = k by omega]
    have dE : I (yN Y : Int) + I (p : Int) = I (yD Y (yS Y p + k) : Int) := by
      unfold yD
      rw [if_neg (by omega), b1, I_add]
      rfl
    have ix : (4 : Int32) * I (yU Y p : Int) + I (k : Int) = I ((4 * yU Y p + k : Nat) : Int) := by
      rw [show (4 : Int32) = I 4 from rfl, I_mul, I_add]; rfl
    have icl : (I ((4 * yU Y p + k : Nat) : Int)).toNatClampNeg = 4 * yU Y p + k := I_clN (by omega)
    obtain ⟨U, u0, u1, u2, u3, u4, u5, u6⟩ := r_puts (sh := sh) (f := f) la.2.1 (show yS Y p + k < 12 by omega) (I (yK Y (yS Y p + k))) (I (yD Y (yS Y p + k)))
    obtain ⟨W, w0, w1, w2⟩ := ih (k + 1) nf U (by omega) (by omega) (rLA_put la u1 u2 u3 u4 u5 u6)
    refine ⟨W, w0, fun i => (w1 i).trans ((u6 135 (by omega) (by omega) (by omega)).A i), ?_⟩
    rw [F_X12_lays_L92, T5, Option.bind_some, if_pos ck, ucl, if_neg (I_bnd (show yU Y p < 4 by omega) (by omega)), s6, if_neg (by rw [I_leN (by omega) (by omega)]; omega), Option.bind_some, if_pos ck, ix, icl, if_neg (I_bnd (show 4 * yU Y p + k < 16 by omega) (by omega)), s7, T2, dE, kE, u0, Option.bind_some]
    simp only [bnd, I_suc]
    exact w2
end A0a
