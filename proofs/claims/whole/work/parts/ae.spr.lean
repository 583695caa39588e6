/-! THE REFERENCE marks all rows of a drawing. -/
section AEa
variable {sh : List Sh} {f q : Nat} {Y : Ly} {S : St} {ρ0 : Nat → Nat} {D0 : Nat → Int32} {d p1 : Nat} {p4 : Int32}
/-- where the swaps lead nowhere else, all that look alike are there -/
theorem V_all (ok : yOk Y) {V : List Nat} {k0 : Nat} (h0 : (yHg Y)[k0]? = some ρ0) (kV : k0 ∈ V) (hV : ∀ x, x ∈ V → ∃ ρ, (yHg Y)[x]? = some ρ ∧ yEq Y ρ0 ρ) (hc : ∀ x ρ, x ∈ V → (yHg Y)[x]? = some ρ → ∀ s, Gn Y s → imV Y ρ V s) (x : Nat) : x ∈ V ↔ ∃ ρ, (yHg Y)[x]? = some ρ ∧ yEq Y ρ0 ρ := by
  have L12 := ok.2.2.2.2.2.2.1
  have nl := N_le ok
  constructor
  · exact hV x
  · rintro ⟨ρ, hρ, e⟩
    obtain ⟨w0, o0, c0⟩ := (yHg_mem ok).mp (List.mem_of_getElem? h0)
    obtain ⟨w, o, c⟩ := (yHg_mem ok).mp (List.mem_of_getElem? hρ)
    have inj : ∀ (a b : Nat) (τ : Nat → Nat), (yHg Y)[a]? = some τ → (yHg Y)[b]? = some τ → a = b := by
      intro a b τ ha hb
      have la := (List.getElem?_eq_some_iff.mp ha)
      have lb := (List.getElem?_eq_some_iff.mp hb)
      obtain ⟨la, ea⟩ := la
      obtain ⟨lb, eb⟩ := lb
      have P := List.pairwise_iff_getElem.mp (yHg_srt ok)
      rcases Nat.lt_trichotomy a b with g | g | g
      · have := P a b la lb g
        rw [ea, eb] at this
        omega
      · exact g
      · have := P b a lb la g
        rw [ea, eb] at this
        omega
    have key := clo (fo := yFo Y) (y_hk ok) List.nodup_range (y_Gp ok) (y_Gen ok) (fun s _ => g_out (Or.inr (by omega))) (by rw [List.mem_range]; omega) w0 w (fun i hi => o0 i (by rw [List.mem_range] at hi; exact hi)) (fun i hi => o i (by rw [List.mem_range] at hi; exact hi)) (fun τ => ∃ m, m ∈ V ∧ (yHg Y)[m]? = some τ) ⟨k0, kV, h0⟩ ?_ ?_ e
    · obtain ⟨m, m1, m2⟩ := key
      rw [inj x m ρ hρ m2]
      exact m1
    · rintro τ a b ha hb eF ⟨m, m1, m2⟩
      have ha := List.mem_range.mp ha
      have hb := List.mem_range.mp hb
      have same : a = b → ∃ m, m ∈ V ∧ (yHg Y)[m]? = some (cj (sw a b) (sw a b) τ) := by
        intro e
        have : sw a b = fun x => x := by
          funext x
          unfold sw
          grind
        rw [this]
        exact ⟨m, m1, m2⟩
      have two : ∀ a b, a < b → b < yL Y → yF Y a = yF Y b → ∃ m, m ∈ V ∧ (yHg Y)[m]? = some (cj (sw a b) (sw a b) τ) := by
        intro a b ab hb eF
        have na : yN Y ≤ a := by
          apply Classical.byContradiction
          intro hn
          rw [f_out (Or.inl (by omega))] at eF
          by_cases q : b < yN Y
          · rw [f_out (Or.inl q)] at eF
            omega
          · have := f_in ok (i := b) (by omega) hb
            omega
        exact hc m τ m1 m2 (sw a b) (Or.inl ⟨a, b, na, ab, hb, eF, rfl⟩)
      rcases Nat.lt_trichotomy a b with g | g | g
      · exact two a b g hb eF
      · exact same g
      · have := two b a g ha eF.symm
        have e : sw a b = sw b a := by
          funext x
          unfold sw
          grind
        rw [e]
        exact this
    · rintro τ s hs ⟨m, m1, m2⟩
      obtain ⟨g12, _⟩ := mem_gns.mp hs
      have iv : ivp s = s := by
        rcases g12 with rfl | rfl <;> rfl
      have := hc m τ m1 m2 (yG Y s) (Or.inr ⟨s, hs, rfl⟩)
      unfold cg
      rw [iv]
      exact this
theorem r_sp30 {k0 : Nat} (hf : 20000 ≤ f) (H : spH S Y ρ0 D0 d) (R : spR sh S Y q p1) (h0 : (yHg Y)[k0]? = some ρ0) : ∀ (g nf : Nat) (T : St) (V st : List Nat) (c : Nat), (yHg Y).length ≤ c + g → g < nf → k0 ∈ V → dI S T Y ρ0 D0 d V st c → (∀ x ρ, x ∈ V → ¬ x ∈ st → (yHg Y)[x]? = some ρ → ∀ s, Gn Y s → imV Y ρ V s) → ∃ (T' : St) (V' : List Nat), F_X12_spreads_L30 sh f 94 p1 142 3 0 p4 (I d) nf T (I c) = some (I (V'.length : Nat), T') ∧ V'.Nodup ∧ (∀ x, x ∈ V' ↔ ∃ ρ, (yHg Y)[x]? = some ρ ∧ yEq Y ρ0 ρ) ∧ (∀ x, x < (yHg Y).length → sA T' 138 x = if x ∈ V' then I d else D0 x) ∧ fr [38] [134, 138, 139, 140, 141] S T' := by
  obtain ⟨ok, rl, rb, hD, hd⟩ := id H
  have nl := N_le ok
  have L12 := ok.2.2.2.2.2.2.1
  have ll := yHg_len ok
  have v3 := ok.2.2.2.1
  intro g
  induction g with
  | zero =>
    intro nf T V st c h1 h2 kV dT hc
    obtain ⟨nf, rfl⟩ : ∃ e, nf = e + 1 := ⟨nf - 1, by omega⟩
    have vl := nd_le dT.2.1 (n := (yHg Y).length) (fun x hx => by
      obtain ⟨ρ', q, _⟩ := dT.2.2.2.1 x hx
      exact (List.getElem?_eq_some_iff.mp q).1)
    have cl := dT.2.2.1
    have s0 : st = [] := List.length_eq_zero_iff.mp (by omega)
    subst s0
    rw [F_X12_spreads_L30, dT.2.2.2.2.2.1, if_pos (by decide)]
    rw [List.length_nil, Nat.add_zero] at cl
    rw [cl]
    exact ⟨T, V, rfl, dT.2.1, V_all ok h0 kV dT.2.2.2.1 (fun x ρ hx hr => hc x ρ hx (by simp) hr), dT.2.2.2.2.1, dT.1⟩
  | succ g ih =>
    intro nf T V st c h1 h2 kV dT hc
    obtain ⟨nf, rfl⟩ : ∃ e, nf = e + 1 := ⟨nf - 1, by omega⟩
    have vl := nd_le dT.2.1 (n := (yHg Y).length) (fun x hx => by
      obtain ⟨ρ', q, _⟩ := dT.2.2.2.1 x hx
      exact (List.getElem?_eq_some_iff.mp q).1)
    have cl := dT.2.2.1
    have e38 := dT.2.2.2.2.2.1
    rcases List.eq_nil_or_concat st with s0 | ⟨st0, k, s0⟩
    · subst s0
      rw [F_X12_spreads_L30, e38, if_pos (by decide)]
      rw [List.length_nil, Nat.add_zero] at cl
      rw [cl]
      exact ⟨T, V, rfl, dT.2.1, V_all ok h0 kV dT.2.2.2.1 (fun x ρ hx hr => hc x ρ hx (by simp) hr), dT.2.2.2.2.1, dT.1⟩
    · rw [List.concat_eq_append] at s0
      subst s0
      obtain ⟨d1, d2, d3, d4, d5, d6, d7, d8⟩ := dT
      rw [List.length_append, List.length_singleton] at d3 d6
      have kk : k ∈ V := d8 k (by simp)
      obtain ⟨ρ, hk, ek⟩ := d4 k kk
      have e39 := d7 st0.length k (by rw [List.getElem?_append_right (Nat.le_refl _), Nat.sub_self]; rfl)
      have p1ne : p1 ≠ 94 := by have := R.2.2.2.2.2.2.2; omega
      have sub1 : I ((st0.length + 1 : Nat) : Int) - 1 = I ((st0.length : Nat) : Int) := by
        rw [show (1 : Int32) = I 1 from rfl, I_sub]
        congr 1
        omega
      have nb : ¬ (I ((st0.length : Nat) : Int) < 0 ∨ 10395 ≤ st0.length) := by
        rw [show (0 : Int32) = I ((0 : Nat) : Int) from rfl, I_ltN (by omega) (by omega)]
        omega
      have neg0 : ¬ I ((st0.length + 1 : Nat) : Int) ≤ 0 := by
        rw [show (0 : Int32) = I ((0 : Nat) : Int) from rfl, I_leN (by omega) (by omega)]
        omega
      rw [F_X12_spreads_L30, d6, if_neg neg0, sub1]
      simp only [bnd]
      rw [sI_self, I_clN (by omega), if_neg nb]
      have t39 : sA (uI T 94 38 (I ((st0.length : Nat) : Int))) (94 + 45) st0.length = I k := e39
      have dU : dI S (uI T 94 38 (I ((st0.length : Nat) : Int))) Y ρ0 D0 d V st0 (c + 1) := ⟨d1.uI _ (by decide), d2, by omega, d4, d5, sI_self _ _ _ _, fun i x e => d7 i x (by rw [List.getElem?_append_left (List.getElem?_eq_some_iff.mp e).1]; exact e), fun x hx => d8 x (by simp [hx])⟩
      have en : sI (uI T 94 38 (I ((st0.length : Nat) : Int))) p1 2 = I (yN Y) := (spR_fr dU.1 R).2.2.2.2.2.2.1
      rw [t39, I_suc c, en]
      obtain ⟨W, V', st', w0, w1, w2, w3⟩ := r_sp67 (sh := sh) (f := f) (p1 := p1) (p4 := p4) (l6 := I ((c + 1 : Nat) : Int)) (by omega) H hk (F_X12_spreads_L30 sh f 94 p1 142 3 0 p4 (I d) nf) (yL Y - yN Y) (yN Y) f _ V st0 (by omega) (by omega) (Nat.le_refl _) kk dU (fun x y a1 a2 => by omega)
      rw [w0]
      obtain ⟨X, V'', st'', x0, x1, x2, x3⟩ := r_sp173 (sh := sh) (f := f) (p4 := p4) (l6 := I ((c + 1 : Nat) : Int)) (by omega) H R hk (F_X12_spreads_L30 sh f 94 p1 142 3 0 p4 (I d) nf) (yV Y) 0 f W V' st' (by omega) (by omega) (by omega) (w2.1 k kk) w1 w3 (fun a ha => by omega)
      have x0' : F_X12_spreads_L173 sh f 94 p1 142 3 0 p4 (I d) (F_X12_spreads_L30 sh f 94 p1 142 3 0 p4 (I d) nf) f W (I ((c + 1 : Nat) : Int)) (I k) 0 = F_X12_spreads_L30 sh f 94 p1 142 3 0 p4 (I d) nf X (I ((c + 1 : Nat) : Int)) := x0
      rw [x0']
      have ex := w2.trans x2
      refine ih nf X V'' st'' (c + 1) (by omega) (by omega) (ex.1 k0 kV) x1 (fun x τ hx nx hr s gs => ?_)
      by_cases q : x = k
      · subst q
        rw [hk] at hr
        rw [← Option.some.inj hr]
        exact x3 s gs
      · rcases ex.2.1 x hx with hv | hv
        · refine imV_ext ex (hc x τ hv ?_ hr s gs)
          rw [List.mem_append, List.mem_singleton]
          rintro (z | z)
          · exact nx (ex.2.2 x z)
          · exact q z
        · exact absurd hv nx
theorem r_spreads {k0 : Nat} (hf : 20000 ≤ f) (ok : yOk Y) (rl : rlC S Y) (rb : RB S (yHg Y)) (R : spR sh S Y q p1) (h0 : (yHg Y)[k0]? = some ρ0) (hd : d < 200) (hD : ∀ (x : Nat) (ρ : Nat → Nat), (yHg Y)[x]? = some ρ → yEq Y ρ0 ρ → sA S 138 x = -1) : ∃ (T' : St) (V' : List Nat), F_X12_spreads sh f S 94 p1 142 3 0 (I k0) (I d) = some (I (V'.length : Nat), T') ∧ V'.Nodup ∧ (∀ x, x ∈ V' ↔ ∃ ρ, (yHg Y)[x]? = some ρ ∧ yEq Y ρ0 ρ) ∧ (∀ x, x < (yHg Y).length → sA T' 138 x = if x ∈ V' then I d else sA S 138 x) ∧ fr [38] [134, 138, 139, 140, 141] S T' := by
  have ll := yHg_len ok
  have kl := (List.getElem?_eq_some_iff.mp h0).1
  have nb : ¬ (I (k0 : Int) < 0 ∨ 10395 ≤ k0) := by
    rw [show (0 : Int32) = I ((0 : Nat) : Int) from rfl, I_ltN (by omega) (by omega)]
    omega
  unfold F_X12_spreads
  simp only [bnd]
  rw [I_clN (by omega), if_neg nb, if_neg (by decide)]
  have r0 : yEq Y ρ0 ρ0 := Eqv.refl (y_Gp ok)
  have z : (0 : Int32).toNatClampNeg = 0 := rfl
  rw [z]
  refine r_sp30 (D0 := sA S 138) hf ⟨ok, rl, rb, hD, hd⟩ R h0 (yHg Y).length f _ [k0] [k0] 0 (by omega) (by omega) (by simp) ⟨?_, by simp, by simp, ?_, ?_, sI_self _ _ _ _, ?_, fun x hx => hx⟩ (fun x ρ h1 h2 => absurd h1 h2)
  · exact (((fr.rfl.uI _ (by decide)).uA _ _ (by decide)).uA _ _ (by decide)).uI _ (by decide)
  · intro x hx
    rw [List.mem_singleton] at hx
    subst hx
    exact ⟨ρ0, h0, r0⟩
  · intro x hx
    show sA (uA (uA (uI S 94 38 0) (94 + 44) k0 (I d)) (94 + 45) 0 (I k0)) 138 x = _
    rw [sA_row _ _ _ (by decide), sA_uA, if_pos rfl, up1_if]
    by_cases c : x = k0
    · rw [if_pos c, if_pos (by simp [c])]
    · rw [if_neg c, if_neg (by simp [c])]
      rfl
  · intro i x e
    show sA (uA (uA (uI S 94 38 0) (94 + 44) k0 (I d)) (94 + 45) 0 (I k0)) 139 i = _
    have il := (List.getElem?_eq_some_iff.mp e).1
    rw [List.length_singleton] at il
    have i0 : i = 0 := by omega
    subst i0
    have : k0 = x := by simpa using e
    rw [sA_uA, if_pos rfl, up1_if, if_pos rfl, this]
end AEa
