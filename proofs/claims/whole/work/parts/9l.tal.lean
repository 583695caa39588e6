/-! TALLY: the joins of a row counted. -/
theorem lyC_sm {S S' : St} {t : Nat} {Y : Ly} (h : lyC S t Y) (g : ∀ x, t ≤ x → x ≤ t + 7 → Sm S S' x) : lyC S' t Y := by
  have g0 := g t (by omega) (by omega)
  refine ⟨(g0.I 7).trans h.1, (g0.I 8).trans h.2.1, (g0.I 9).trans h.2.2.1, (g0.I 10).trans h.2.2.2.1, (g0.I 11).trans h.2.2.2.2.1, (g0.I 12).trans h.2.2.2.2.2.1, fun i hi => ?_, fun p hp => ?_⟩
  · obtain ⟨a, b, c, d, e⟩ := h.2.2.2.2.2.2.1 i hi
    exact ⟨((g (t + 1) (by omega) (by omega)).A i).trans a, ((g (t + 2) (by omega) (by omega)).A i).trans b, ((g (t + 3) (by omega) (by omega)).A i).trans c, ((g (t + 4) (by omega) (by omega)).A i).trans d, ((g (t + 5) (by omega) (by omega)).A i).trans e⟩
  · obtain ⟨a, b⟩ := h.2.2.2.2.2.2.2 p hp
    exact ⟨((g (t + 6) (by omega) (by omega)).A p).trans a, ((g (t + 7) (by omega) (by omega)).A p).trans b⟩
theorem jt_s (fi ρ : Nat → Nat) (i a b : Nat) : jt fi (List.range (i + 1)) ρ a b = jt fi (List.range i) ρ a b + (if i < ρ i ∧ (fi i = a ∧ fi (ρ i) = b ∨ fi i = b ∧ fi (ρ i) = a) then 1 else 0) := by
  unfold jt
  rw [List.range_succ, List.countP_append, List.countP_singleton]
  congr 1
  by_cases c : i < ρ i ∧ (fi i = a ∧ fi (ρ i) = b ∨ fi i = b ∧ fi (ρ i) = a)
  · rw [if_pos c, if_pos]
    simp only [Bool.and_eq_true, Bool.or_eq_true, decide_eq_true_eq, beq_iff_eq]
    exact c
  · rw [if_neg c, if_neg]
    simp only [Bool.and_eq_true, Bool.or_eq_true, decide_eq_true_eq, beq_iff_eq]
    exact c
theorem jt_sy (fi : Nat → Nat) (l : List Nat) (ρ : Nat → Nat) (a b : Nat) : jt fi l ρ a b = jt fi l ρ b a := by
  unfold jt
  apply countP_cg
  intro i _
  rw [Bool.or_comm]
theorem aF_s (fi ρ : Nat → Nat) {i : Nat} (h : i < ρ i) : aF fi (List.range (i + 1)) ρ = aF fi (List.range i) ρ * (jt fi (List.range i) ρ (fi i) (fi (ρ i)) + 1) * (if fi i = fi (ρ i) then 2 else 1) := by
  have e : pl fi (List.range (i + 1)) ρ = pl fi (List.range i) ρ ++ [nm (fi i) (fi (ρ i))] := by
    unfold pl
    rw [List.range_succ, List.filter_append, List.map_append, List.filter_cons, decide_eq_true h]
    rfl
  have p : (pl fi (List.range i) ρ ++ [nm (fi i) (fi (ρ i))]).Perm (nm (fi i) (fi (ρ i)) :: pl fi (List.range i) ρ) := List.perm_append_comm
  unfold aF
  rw [e, aP_perm p, aP, pl_count]
  have q : ((nm (fi i) (fi (ρ i))).1 = (nm (fi i) (fi (ρ i))).2) = (fi i = fi (ρ i)) := by
    unfold nm
    apply propext
    constructor
    · intro h; simp only at h; omega
    · intro h; simp only; omega
  simp only [q]
  rw [Nat.mul_comm, ← Nat.mul_assoc, Nat.add_comm 1]
theorem aF_n (fi ρ : Nat → Nat) {i : Nat} (h : ¬ i < ρ i) : aF fi (List.range (i + 1)) ρ = aF fi (List.range i) ρ := by
  unfold aF pl
  rw [List.range_succ, List.filter_append, List.map_append, List.filter_cons, decide_eq_false h]
  simp
theorem I_idx (a b : Nat) : (I (a : Int) * 12) + I (b : Int) = I ((12 * a + b : Nat) : Int) := by
  rw [show (12 : Int32) = I 12 from rfl, I_mul, I_add]; congr 1; omega
def jnC (S : St) (g : Nat → Nat → Nat) : Prop := ∀ a b, a < 12 → b < 12 → sA S 22 (12 * a + b) = I (g a b)
section L9l
variable {sh : List Sh} {f : Nat} {S : St} {Y : Ly} {ρ : Nat → Nat}
theorem c_tally (hf : 1000 ≤ f) (h : lyC S 14 Y) (ok : yOk Y) (w : yRw Y ρ) {s : Nat} (hs : s ∈ yPP Y) (z : jnC S (fun _ _ => 0)) : ∃ S', F_X5_tally sh f S 13 (J (e12 ρ)) (I s) = some (I (aF (yF Y) (List.range (yL Y)) ρ), S') ∧ jnC S' (jt (yF Y) (List.range (yL Y)) (cg (yG Y) ivp s ρ)) ∧ ∀ x, x ≠ 22 → Sm S S' x := by
  have L12 := ok.2.2.2.2.2.2.1
  have hr : ∀ i, i < yL Y → ρ i < yL Y := fun i hi => (yRw_lt w hi).1
  have G := (y_Gp ok).2.2.2.1 s hs
  generalize hfi : (fun i => yG Y s (yF Y i)) = fi
  have fe : ∀ i, fi i = yG Y s (yF Y i) := fun i => by rw [← hfi]
  have f12 : ∀ i, i < yL Y → fi i < 12 := fun i hi => by
    have := G_lt ok hs (F_lt ok hi).2
    rw [fe]; omega
  have lp : ∀ (d i nf : Nat) (T : St), i + d = yL Y → d < nf → (∀ x, x ≠ 22 → Sm S T x) → jnC T (jt fi (List.range i) ρ) → ∃ S', F_X5_tally_L6 sh f 13 (J (e12 ρ)) (I s) nf T (I (aF fi (List.range i) ρ)) (I i) = some (I (aF fi (List.range (yL Y)) ρ), S') ∧ jnC S' (jt fi (List.range (yL Y)) ρ) ∧ ∀ x, x ≠ 22 → Sm S S' x := by
    intro d
    induction d with
    | zero =>
      intro i nf T h1 h2 fr jn
      obtain ⟨nf, rfl⟩ : ∃ e, nf = e + 1 := ⟨nf - 1, by omega⟩
      have : i = yL Y := by omega
      subst this
      have lT := lyC_sm h (S' := T) (fun x _ _ => fr x (by omega))
      refine ⟨T, ?_, jn, fr⟩
      rw [F_X5_tally_L6]
      simp only [Nat.reduceAdd, lT.2.2.1]
      rw [if_pos (by rw [I_leN (by omega) (by omega)]; omega)]
    | succ d ih =>
      intro i nf T h1 h2 fr jn
      obtain ⟨nf, rfl⟩ : ∃ e, nf = e + 1 := ⟨nf - 1, by omega⟩
      have lT := lyC_sm h (S' := T) (fun x _ _ => fr x (by omega))
      have ri := hr i (by omega)
      have c1 : ¬ I (yL Y : Int) ≤ I i := by rw [I_leN (by omega) (by omega)]; omega
      have icl : (I (i : Int)).toNatClampNeg = i := I_clN (by omega)
      have jcl : (I (ρ i : Int)).toNatClampNeg = ρ i := I_clN (by omega)
      have q1 : (I (ρ i : Int) ≤ I i) = (ρ i ≤ i) := I_leN (by omega) (by omega)
      rw [F_X5_tally_L6]
      simp only [Nat.reduceAdd, lT.2.2.1, if_neg c1]
      rw [c_partnerIn (by omega), Option.bind_some, zz_row L12 hr (by omega)]
      simp only [q1]
      by_cases c : ρ i ≤ i
      · rw [if_pos c]
        simp only [bnd, I_suc]
        rw [← aF_n fi ρ (show ¬ i < ρ i by omega)]
        refine ih (i + 1) nf T (by omega) (by omega) fr ?_
        intro a b ha hb
        rw [jt_s, if_neg (by omega), Nat.add_zero]
        exact jn a b ha hb
      · have a12 := f12 i (by omega)
        have b12 := f12 (ρ i) ri
        have k1 := c_swapped (sh := sh) (f := f) lT ok hs (F_lt ok (show i < yL Y by omega)).2 (F_F ok i)
        have k2 := c_swapped (sh := sh) (f := f) lT ok hs (F_lt ok ri).2 (F_F ok (ρ i))
        rw [← fe] at k1 k2
        generalize ha : fi i = a at k1 a12
        generalize hb : fi (ρ i) = b at k2 b12
        have abc : (I ((12 * a + b : Nat) : Int)).toNatClampNeg = 12 * a + b := I_clN (by omega)
        have bac : (I ((12 * b + a : Nat) : Int)).toNatClampNeg = 12 * b + a := I_clN (by omega)
        have q2 : (I (a : Int) = I b) = (a = b) := I_eqN (by omega) (by omega)
        have AS := aF_s fi ρ (show i < ρ i by omega)
        rw [ha, hb] at AS
        have v1 : I (aF fi (List.range i) ρ : Int) * (I (jt fi (List.range i) ρ a b : Int) + 1) = I ((aF fi (List.range i) ρ * (jt fi (List.range i) ρ a b + 1) : Nat) : Int) := by
          rw [I_suc, I_mul]; rfl
        simp only [if_neg c, icl, jcl, if_neg (I_bnd (show i < 12 by omega) (by omega)), if_neg (I_bnd (show ρ i < 12 by omega) (by omega)), (lT.2.2.2.2.2.2.1 i (by omega)).2.2.1, (lT.2.2.2.2.2.2.1 (ρ i) ri).2.2.1, k1, k2, Option.bind_some, I_idx, abc, bac, if_neg (I_bnd (show 12 * a + b < 144 by omega) (by omega)), if_neg (I_bnd (show 12 * b + a < 144 by omega) (by omega)), bnd, q2, jn a b a12 b12]
        generalize hU : uA T 22 (12 * a + b) (I (jt fi (List.range i) ρ a b : Int) + 1) = U
        have u22 : ∀ x, sA U 22 x = up1 (sA T 22) (12 * a + b) (I (jt fi (List.range i) ρ a b : Int) + 1) x := by
          intro x
          rw [← hU, sA_uA, if_pos rfl]
        have uf : ∀ x, x ≠ 22 → Sm S U x := by
          intro x hx
          rw [← hU]
          exact (fr x hx).trans (by repeat' (first | exact Sm.rfl | (refine Sm.uI ?_ (by omega)) | (refine Sm.uA ?_ (by omega)) | (refine Sm.uJ ?_ (by omega)) | (refine Sm.uL ?_ (by omega)) | (refine Sm.uR ?_ (by omega))))
        rw [u22, up1_self, v1]
        by_cases e : a = b
        · rw [if_pos e]
          subst e
          have v2 : I ((aF fi (List.range i) ρ * (jt fi (List.range i) ρ a a + 1) : Nat) : Int) * 2 = I (aF fi (List.range (i + 1)) ρ : Int) := by
            rw [AS, if_pos rfl, show (2 : Int32) = I 2 from rfl, I_mul]; rfl
          rw [v2, I_suc]
          refine ih (i + 1) nf U (by omega) (by omega) uf ?_
          intro x y hx hy
          rw [u22, up1_if, jt_s, ha, hb]
          by_cases g : 12 * x + y = 12 * a + a
          · rw [if_pos g, if_pos ⟨by omega, by omega⟩, I_suc, show x = a by omega, show y = a by omega]
          · rw [if_neg g, if_neg (by omega), Nat.add_zero]
            exact jn x y hx hy
        · rw [if_neg e, u22, up1_ne _ _ (by omega), jn b a b12 a12]
          have v2 : aF fi (List.range i) ρ * (jt fi (List.range i) ρ a b + 1) = aF fi (List.range (i + 1)) ρ := by
            rw [AS, if_neg e, Nat.mul_one]
          rw [v2, I_suc i]
          refine ih (i + 1) nf _ (by omega) (by omega) (fun x hx => (uf x hx).trans (by repeat' (first | exact Sm.rfl | (refine Sm.uI ?_ (by omega)) | (refine Sm.uA ?_ (by omega)) | (refine Sm.uJ ?_ (by omega)) | (refine Sm.uL ?_ (by omega)) | (refine Sm.uR ?_ (by omega))))) ?_
          intro x y hx hy
          rw [sA_uA, if_pos rfl, up1_if, jt_s, ha, hb]
          by_cases g : 12 * x + y = 12 * b + a
          · rw [if_pos g, if_pos ⟨by omega, by omega⟩, I_suc, show x = b by omega, show y = a by omega]
          · rw [if_neg g, u22, up1_if]
            by_cases g2 : 12 * x + y = 12 * a + b
            · rw [if_pos g2, if_pos ⟨by omega, by omega⟩, I_suc, show x = a by omega, show y = b by omega]
            · rw [if_neg g2, if_neg (by omega), Nat.add_zero]
              exact jn x y hx hy
  have w' : yRw Y (cg (yG Y) ivp s ρ) := cg_rw (y_Gp ok) hs w
  have tt : ∀ a b, tl (yF Y) (List.range (yL Y)) (cg (yG Y) ivp s ρ) a b = tl fi (List.range (yL Y)) ρ a b := by
    intro a b
    unfold cg
    rw [tl_cj List.nodup_range ((y_Gp ok).bij hs)]
    unfold tl
    apply countP_cg
    intro i _
    rw [(G.2 i).2.2.1, (G.2 (ρ i)).2.2.1, fe, fe]
  have jj := jt_of_tl List.nodup_range w' w tt
  have aa : aF fi (List.range (yL Y)) ρ = aF (yF Y) (List.range (yL Y)) ρ := aF_u (u := yG Y s) (v := yG Y (ivp s)) (fun i => (G.2 i).1) fe
  obtain ⟨S', r1, r2, r3⟩ := lp (yL Y) 0 f S (by omega) (by omega) (fun x _ => Sm.rfl) (fun a b ha hb => z a b ha hb)
  refine ⟨S', ?_, ?_, r3⟩
  · unfold F_X5_tally
    rw [← aa]
    exact r1
  · intro a b ha hb
    rw [jj]
    exact r2 a b ha hb
end L9l
