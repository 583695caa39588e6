/-! BY PAIRINGS of the reference: rows of a layout. -/
section BRa
variable {sh : List Sh} {f z : Nat} {Y : Ly} {T : St} {ρ : Nat → Nat} {p1 p2 p3 p4 l5 : Int32}
def shK (sh : List Sh) (T : St) (Y : Ly) (z : Nat) : Prop := rlC T Y ∧ sI T 94 40 = I (yV Y) ∧ sR T 94 5 = some z ∧ ckX9 sh z = true ∧ qOk z ∧ bkR T z (yB Y)
theorem shK_C (h : shK sh T Y z) (r : ∀ i, i < yL Y → sA T 134 i = I (ρ i)) : shC sh T Y ρ z := ⟨h.1, r, h.2.1, h.2.2.1, h.2.2.2.1, h.2.2.2.2.1, h.2.2.2.2.2⟩
theorem shC_K (h : shC sh T Y ρ z) : shK sh T Y z := ⟨h.1, h.2.2.1, h.2.2.2.1, h.2.2.2.2.1, h.2.2.2.2.2.1, h.2.2.2.2.2.2⟩
theorem shK_fr {fs cs : List Nat} {U : St} (h : shK sh T Y z) (F : fr fs cs T U) (a1 : ¬ 25 ∈ fs) (a2 : ¬ 26 ∈ fs) (a3 : ¬ 40 ∈ fs) (b1 : ¬ 132 ∈ cs) (b2 : ¬ 133 ∈ cs) (b3 : ¬ 135 ∈ cs) (hc : ∀ x, x ∈ cs → 106 ≤ x ∧ x ≤ 158) : shK sh U Y z := ⟨rlC_fr F h.1 a1 a2 b1 b2 b3, (F.I a3).trans h.2.1, (F.R 5).trans h.2.2.1, h.2.2.2.1, h.2.2.2.2.1, bkR_fr F hc h.2.2.2.2.1 h.2.2.2.2.2⟩
theorem r_bp222 (hf : 1000 ≤ f) (ok : yOk Y) (w : yRw Y ρ) (h : shC sh T Y ρ z) (k196 : St → Int32 → Int32 → Int32 → Option (Int64 × St)) (l8 l9 : Int32) : ∀ (d k nf : Nat), k + d = yL Y → d < nf → F_X12_byPairings_L222 sh f 94 p1 p2 p3 p4 k196 nf T l5 l8 l9 (J (hvN Y ρ k : Nat)) (I k) = F_X12_byPairings_L274 sh f 94 p1 p2 p3 p4 k196 f T l5 l8 l9 (J (hvN Y ρ (yL Y) : Nat)) 0 := by
  have L12 := ok.2.2.2.2.2.2.1
  intro d
  induction d with
  | zero =>
    intro k nf hk hn
    obtain ⟨nf, rfl⟩ : ∃ e, nf = e + 1 := ⟨nf - 1, by omega⟩
    have : k = yL Y := by omega
    subst this
    rw [F_X12_byPairings_L222, h.1.1, if_pos (by rw [I_leN (by omega) (by omega)]; omega)]
  | succ d ih =>
    intro k nf hk hn
    obtain ⟨nf, rfl⟩ : ∃ e, nf = e + 1 := ⟨nf - 1, by omega⟩
    rw [F_X12_byPairings_L222, h.1.1, if_neg (by rw [I_leN (by omega) (by omega)]; omega), r_isInner ok w h (by omega), Option.bind_some, if10]
    by_cases c : inB Y ρ k = true
    · have kl := k_lt ok k
      have k8 := ok.1.1.1
      have hb := (h.2.2.2.2.2.2.2.2.1 (yK Y k) kl).2.1
      have b99 := (ok.1.1.2 (yK Y k) kl).2.2
      have a1 : sA T (94 + 38) k = I (yK Y k) := (h.1.2.2.1 k (by omega)).1
      have cc := of_decide_eq_true c
      have nx := ih (k + 1) nf (by omega) (by omega)
      rw [hvN, if_pos cc] at nx
      rw [if_pos c, h.2.2.2.1, Option.bind_some, if_pos h.2.2.2.2.1, I_clN (show k < _ by omega), if_neg (I_bnd (show k < 12 by omega) (by omega)), a1, I_clN (show yK Y k < _ by omega), if_neg (I_bnd (show yK Y k < 8 by omega) (by omega)), hb, J_I (by omega), J_mul]
      simp only [bnd, I_suc]
      rw [← Int.natCast_mul]
      exact nx
    · have cc : ¬ (yN Y ≤ k ∧ k < ρ k) := fun q => c (decide_eq_true q)
      have nx := ih (k + 1) nf (by omega) (by omega)
      rw [hvN, if_neg cc] at nx
      rw [if_neg c, show (1 : Int64) = J 1 from rfl, J_mul, Int.mul_one]
      simp only [bnd, I_suc]
      exact nx
/-- the first row of a layout: a product is noted -/
theorem r_bp274a (hf : 1000 ≤ f) (ok : yOk Y) (w : yRw Y ρ) (h : shC sh T Y ρ z) (k196 : St → Int32 → Int32 → Int32 → Option (Int64 × St)) {k : Nat} (hk : k < 10395) (x10 : Int64) : ∃ T', F_X12_byPairings_L274 sh f 94 p1 p2 p3 p4 k196 f T l5 0 (I k) x10 0 = k196 T' l5 1 (I ((k + 1 : Nat) : Int)) ∧ sL T' 152 0 = x10 ∧ sL T' 153 0 = sL T 137 k ∧ sA T' 154 0 = I (sgR Y ρ) ∧ fr [] [152, 153, 154] T T' := by
  obtain ⟨f, rfl⟩ : ∃ e, f = e + 1 := ⟨f - 1, by omega⟩
  have nk : ¬ (I (k : Int) < 0 ∨ 10395 ≤ k) := by
    rw [show (0 : Int32) = I ((0 : Nat) : Int) from rfl, I_ltN (by omega) (by omega)]
    omega
  have F1 : fr [] [152, 153, 154] T (uA (uL (uL T 152 0 x10) 153 0 (sL T 137 k)) 154 0 0) := ((fr.rfl.uL _ _ (by decide)).uL _ _ (by decide)).uA _ _ (by decide)
  have h1 := shK_fr (shC_K h) F1 (by decide) (by decide) (by decide) (by decide) (by decide) (by decide) (by decide)
  have sg := r_signHere (sh := sh) (f := f + 1) (by omega) ok w (shK_C h1 (fun i hi => (F1.A (by decide) (by decide) i).trans (h.2.1 i hi)))
  have e43 : sL (uL T 152 0 x10) (94 + 43) k = sL T 137 k := by rw [sL_uL, if_neg (by omega)]
  rw [F_X12_byPairings_L274, if_pos (by decide)]
  unfold F_X12_byPairings_L300
  rw [if_pos rfl, if_neg (by decide)]
  have c0 : (0 : Int32).toNatClampNeg = 0 := rfl
  simp only [bnd, I_clN (show k < 2147483648 by omega), c0]
  rw [if_neg nk, if_neg (by decide), if_neg (by decide), if_neg (by decide)]
  have g1 : uL T (94 + 58) 0 x10 = uL T 152 0 x10 := rfl
  rw [g1, e43]
  have g2 : uA (uL (uL T 152 0 x10) (94 + 59) 0 (sL T 137 k)) (94 + 60) 0 0 = uA (uL (uL T 152 0 x10) 153 0 (sL T 137 k)) 154 0 0 := rfl
  rw [g2, sg, Option.bind_some, if_neg (by decide), I_suc]
  refine ⟨_, rfl, ?_, ?_, ?_, F1.uA _ _ (by decide)⟩
  · rw [sL_uA, sL_uA, sL_uL, if_neg (by omega), sL_uL, if_pos rfl, up1_self]
  · rw [sL_uA, sL_uA, sL_uL, if_pos rfl, up1_self]
  · have e : sA (uA (uL (uL T 152 0 x10) 153 0 (sL T 137 k)) 154 0 0) (94 + 60) 0 = 0 := by rw [sA_uA, if_pos rfl, up1_self]
    rw [e, sA_uA, if_pos rfl, up1_self, show (0 : Int32) = I 0 from rfl, I_add, Int.zero_add]
/-- a further row: its product is the one that is noted -/
theorem r_bp274b (hf : 1000 ≤ f) (ok : yOk Y) (w : yRw Y ρ) (h : shC sh T Y ρ z) (k196 : St → Int32 → Int32 → Int32 → Option (Int64 × St)) {k : Nat} (hk : k < 10395) {x10 : Int64} (e0 : sL T 152 0 = x10) {s : Int} (es : sA T 154 0 = I s) : ∃ T', F_X12_byPairings_L274 sh f 94 p1 p2 p3 p4 k196 f T l5 1 (I k) x10 0 = k196 T' l5 1 (I ((k + 1 : Nat) : Int)) ∧ sA T' 154 0 = I (s + sgR Y ρ) ∧ sL T' 152 0 = sL T 152 0 ∧ sL T' 153 0 = sL T 153 0 ∧ fr [] [152, 153, 154] T T' := by
  obtain ⟨f, rfl⟩ : ∃ e, f = e + 1 := ⟨f - 1, by omega⟩
  have sg := r_signHere (sh := sh) (f := f + 1) (by omega) ok w h
  have c0 : (0 : Int32).toNatClampNeg = 0 := rfl
  have e0' : sL T (94 + 58) (0 : Int32).toNatClampNeg = x10 := e0
  have es' : sA T (94 + 60) 0 = I s := es
  rw [F_X12_byPairings_L274, if_neg (by decide), if_neg (by decide), e0', if_pos (lgc.mpr rfl)]
  unfold F_X12_byPairings_L300
  rw [if_neg (by decide), if_neg (by decide), sg, Option.bind_some, if_neg (by decide)]
  simp only [bnd, c0, es', I_suc]
  rw [I_add]
  refine ⟨_, rfl, ?_, rfl, rfl, fr.rfl.uA _ _ (by decide)⟩
  rw [sA_uA, if_pos rfl, up1_self]
end BRa
section BRb
variable {sh : List Sh} {f z : Nat} {Y : Ly} {p1 p2 p3 p4 l5 : Int32}
abbrev bcs : List Nat := [134, 152, 153, 154]
theorem r_bp196 {ρ0 : Nat → Nat} (hf : 1000 ≤ f) (ok : yOk Y) {S : St} (hK : shK sh S Y z) (rb : RB S (yHg Y)) (h0 : (yHg Y)[0]? = some ρ0) (k49 : St → Int32 → Option (Int64 × St)) : ∀ (d k nf : Nat) (T : St) (l8 : Int32), k + d = (yHg Y).length → d < nf → fr [] bcs S T → (k = 0 → l8 = 0) → (0 < k → l8 = 1 ∧ sL T 152 0 = J (hvN Y ρ0 (yL Y) : Nat) ∧ sL T 153 0 = J (e12 ρ0) ∧ sA T 154 0 = I (smT (sgR Y) ((yHg Y).take k))) → ∃ T', F_X12_byPairings_L196 sh f 94 p1 p2 p3 p4 k49 nf T l5 l8 (I k) = F_X12_byPairings_L364 sh f 94 p1 p2 p3 p4 k49 f T' l5 1 0 ∧ fr [] bcs S T' ∧ sL T' 153 0 = J (e12 ρ0) ∧ sA T' 154 0 = I (wkN Y) := by
  have L12 := ok.2.2.2.2.2.2.1
  have hgl := yHg_len ok
  have hpos := (List.getElem?_eq_some_iff.mp h0).1
  intro d
  induction d with
  | zero =>
    intro k nf T l8 hk hn F a1 a2
    obtain ⟨nf, rfl⟩ : ∃ e, nf = e + 1 := ⟨nf - 1, by omega⟩
    obtain ⟨b1, b2, b3, b4⟩ := a2 (by omega)
    rw [F_X12_byPairings_L196, (F.I (by decide)).trans rb.1, if_pos (by rw [I_leN (by omega) (by omega)]; omega), b1]
    refine ⟨T, rfl, F, b3, ?_⟩
    rw [b4, List.take_of_length_le (by omega)]
    unfold wkN
    rw [smT_sum]
  | succ d ih =>
    intro k nf T l8 hk hn F a1 a2
    obtain ⟨nf, rfl⟩ : ∃ e, nf = e + 1 := ⟨nf - 1, by omega⟩
    obtain ⟨ρ, hρ⟩ : ∃ ρ, (yHg Y)[k]? = some ρ := ⟨_, List.getElem?_eq_getElem (by omega)⟩
    have m := (yHg_mem ok).mp (List.mem_of_getElem? hρ)
    have m0 := (yHg_mem ok).mp (List.mem_of_getElem? h0)
    have nk : ¬ (I (k : Int) < 0 ∨ 10395 ≤ k) := by
      rw [show (0 : Int32) = I ((0 : Nat) : Int) from rfl, I_ltN (by omega) (by omega)]
      omega
    have e1 : sL T (94 + 43) k = J (e12 ρ) := ((F.2.2.2 137 (by decide) (by decide)).L k).trans (rb.2 k ρ hρ)
    obtain ⟨U, u0, u1, u2⟩ := r_takes (sh := sh) (f := f) (ρ := ρ) hf L12 T ((F.I (by decide)).trans hK.1.1)
    have FU : fr [] bcs S U := F.trans ((fr_of (by decide) u2).mono (by decide) (by decide))
    have hU := shK_fr hK FU (by decide) (by decide) (by decide) (by decide) (by decide) (by decide) (by decide)
    have hC : shC sh U Y ρ z := shK_C hU (fun i hi => by rw [u1 i hi, zz_row L12 (fun i hi => (yRw_lt m.1 hi).1) hi])
    have h222 := r_bp222 (p1 := p1) (p2 := p2) (p3 := p3) (p4 := p4) (l5 := l5) hf ok m.1 hC (F_X12_byPairings_L196 sh f 94 p1 p2 p3 p4 k49 nf) l8 (I k) (yL Y) 0 f (by omega) (by omega)
    have h222' : F_X12_byPairings_L222 sh f 94 p1 p2 p3 p4 (F_X12_byPairings_L196 sh f 94 p1 p2 p3 p4 k49 nf) f U l5 l8 (I k) 1 0 = _ := h222
    have hv := hv_same ok m.1 m.2.2.1 m0.1 m0.2.2.1
    have s35 : sI T 94 35 = I ((yHg Y).length : Nat) := (F.I (by decide)).trans rb.1
    have tk : smT (sgR Y) ((yHg Y).take (k + 1)) = smT (sgR Y) ((yHg Y).take k) + sgR Y ρ := by
      rw [take_s hρ, smT_app, smT, smT, Int.add_zero]
    rw [F_X12_byPairings_L196, s35, if_neg (by rw [I_leN (by omega) (by omega)]; omega), I_clN (show k < _ by omega), if_neg nk, e1, u0, Option.bind_some, h222', hv]
    by_cases k0 : k = 0
    · rw [a1 k0]
      obtain ⟨V, v0, v1, v2, v3, v4⟩ := r_bp274a (p1 := p1) (p2 := p2) (p3 := p3) (p4 := p4) (l5 := l5) hf ok m.1 hC (F_X12_byPairings_L196 sh f 94 p1 p2 p3 p4 k49 nf) (k := k) (by omega) (J (hvN Y ρ0 (yL Y) : Nat))
      rw [v0]
      have ρe : ρ = ρ0 := by
        rw [k0] at hρ
        exact Option.some.inj (hρ.symm.trans h0)
      refine ih (k + 1) nf V 1 (by omega) (by omega) (FU.trans (v4.mono (by decide) (by decide))) (fun q => by omega) (fun _ => ⟨rfl, v1, ?_, ?_⟩)
      · rw [v2, (u2 137 (by omega)).L]
        rw [← ρe]
        exact e1
      · rw [v3, tk, k0, List.take_zero, smT, Int.zero_add]
    · obtain ⟨b1, b2, b3, b4⟩ := a2 (by omega)
      rw [b1]
      obtain ⟨V, v0, v1, v2, v3, v4⟩ := r_bp274b (p1 := p1) (p2 := p2) (p3 := p3) (p4 := p4) (l5 := l5) hf ok m.1 hC (F_X12_byPairings_L196 sh f 94 p1 p2 p3 p4 k49 nf) (k := k) (by omega) (x10 := J (hvN Y ρ0 (yL Y) : Nat)) (by rw [(u2 152 (by omega)).L]; exact b2) (s := smT (sgR Y) ((yHg Y).take k)) (by rw [(u2 154 (by omega)).A]; exact b4)
      rw [v0]
      exact ih (k + 1) nf V 1 (by omega) (by omega) (FU.trans (v4.mono (by decide) (by decide))) (fun q => by omega) (fun _ => ⟨rfl, by rw [v2, (u2 152 (by omega)).L]; exact b2, by rw [v3, (u2 153 (by omega)).L]; exact b3, by rw [v1, tk]⟩)
end BRb
