/-! KEEPS RULES, swapped, tally. -/
theorem spt_tf : ∀ s : Fin 6, ∀ q : Fin 3, v_tf v_T0 (3 * s.val + q.val) = I (spt s.val q.val : Int) ∧ spt s.val q.val < 3 := by decide +kernel
section K9k
variable {sh : List Sh} {f : Nat} {S : St} {t : Nat} {Y : Ly} {ρ : Nat → Nat}
theorem I_tab {s q : Nat} (hs : s < 6) (hq : q < 3) : (I (s : Int) * 3) + I (q : Int) = I ((3 * s + q : Nat) : Int) := by
  rw [show (3 : Int32) = I 3 from rfl, I_mul, I_add]; congr 1; omega
def kpN (Y : Ly) (s q : Nat) : Bool := if q < yV Y then decide (spt s q < yV Y) && decide (yU Y (spt s q) = yU Y q) else decide (spt s q = q)
theorem c_keeps (hf : 1000 ≤ f) (h : lyC S t Y) (ok : yOk Y) {s : Nat} (hs : s < 6) : F_X4_keepsRules sh f S t (I s) = some (if kpB Y s = true then 1 else 0) := by
  have v3 := ok.2.2.2.1.2
  have u4 : ∀ p, p < yV Y → yU Y p < 4 := fun p hp => by
    have := ok.2.2.2.2.1 p hp
    have := ok.1.2.1
    omega
  have kb : kpB Y s = (kpN Y s 0 && (kpN Y s 1 && kpN Y s 2)) := by
    show (kpN Y s 0 && (kpN Y s 1 && (kpN Y s 2 && true))) = _
    rw [Bool.and_true]
  have st : ∀ (q nf : Nat), q < 3 → F_X4_keepsRules_L2 sh f S t (I s) (nf + 1) (I q) = if kpN Y s q = true then F_X4_keepsRules_L2 sh f S t (I s) nf (I ((q + 1 : Nat) : Int)) else some 0 := by
    intro q nf hq
    obtain ⟨t1, t2⟩ := spt_tf ⟨s, hs⟩ ⟨q, hq⟩
    simp only at t1 t2
    have qcl : (I (q : Int)).toNatClampNeg = q := I_clN (by omega)
    have tcl : (I (spt s q : Int)).toNatClampNeg = spt s q := I_clN (by omega)
    have icl : (I ((3 * s + q : Nat) : Int)).toNatClampNeg = 3 * s + q := I_clN (by omega)
    have q1 : (I (q : Int) < I (yV Y)) = (q < yV Y) := I_ltN (by omega) (by omega)
    have q2 : (I (yV Y : Int) ≤ I (spt s q)) = (yV Y ≤ spt s q) := I_leN (by omega) (by omega)
    have q3 : (I (spt s q : Int) = I q) = (spt s q = q) := I_eqN (by omega) (by omega)
    have c3 : ¬ (3 : Int32) ≤ I q := by
      rw [show (3 : Int32) = I ((3 : Nat) : Int) from rfl, I_leN (by omega) (by omega)]; omega
    rw [F_X4_keepsRules_L2, if_neg c3, I_tab hs hq, icl, if_neg (I_bnd (show 3 * s + q < 18 by omega) (by omega)), t1]
    simp only [bnd, h.1, q1, q2, q3, qcl, tcl, I_suc, if_neg (I_bnd (show spt s q < 3 by omega) (by omega)), if_neg (I_bnd (show q < 3 by omega) (by omega))]
    unfold kpN
    by_cases c : q < yV Y
    · rw [if_pos c, if_pos c]
      by_cases d : yV Y ≤ spt s q
      · rw [if_pos d, if_neg (by rw [decide_eq_false (by omega)]; simp)]
      · have e : (sA S (t + 6) (spt s q) = sA S (t + 6) q) = (yU Y (spt s q) = yU Y q) := by
          rw [(h.2.2.2.2.2.2.2 _ (show spt s q < yV Y by omega)).1, (h.2.2.2.2.2.2.2 q c).1, I_eqN (by have := u4 _ (show spt s q < yV Y by omega); omega) (by have := u4 q c; omega)]
        simp only [if_neg d, e]
        rw [decide_eq_true (show spt s q < yV Y by omega), Bool.true_and]
        by_cases g : yU Y (spt s q) = yU Y q
        · rw [if_pos g, if_pos (decide_eq_true g)]
        · rw [if_neg g, if_neg (by rw [decide_eq_false g]; simp)]
    · rw [if_neg c, if_neg c]
      by_cases g : spt s q = q
      · rw [if_pos g, if_pos (decide_eq_true g)]
      · rw [if_neg g, if_neg (by rw [decide_eq_false g]; simp)]
  unfold F_X4_keepsRules
  obtain ⟨nf, rfl⟩ : ∃ e, f = e + 1 + 1 + 1 + 1 := ⟨f - 4, by omega⟩
  have z : (0 : Int32) = I ((0 : Nat) : Int) := rfl
  rw [z, st 0 _ (by omega), st 1 _ (by omega), st 2 _ (by omega), F_X4_keepsRules_L2, if_pos (show (3 : Int32) ≤ I ((2 + 1 : Nat) : Int) by decide), kb]
  cases kpN Y s 0 <;> cases kpN Y s 1 <;> cases kpN Y s 2 <;> rfl
theorem F_F (ok : yOk Y) (i : Nat) : yF Y (yF Y i) = yF Y i := by
  by_cases c : i < yN Y ∨ yL Y ≤ i
  · rw [f_out c, f_out c]
  · obtain ⟨a1, a2, a3, a4, a5, a6⟩ := f_in ok (i := i) (by omega) (by omega)
    obtain ⟨b1, _⟩ := f_in ok a3 (by omega)
    rw [b1, a2]
    have e : yF Y i - yS Y (yP Y i) = fx (bG (yB Y) (yU Y (yP Y i))) (i - yS Y (yP Y i)) := by omega
    rw [e, (fx_eq _ (by omega) a6).mpr (fx_le _ a6).2, ← a1]
theorem F_lt (ok : yOk Y) {i : Nat} (hi : i < yL Y) : yF Y i ≤ i ∧ yF Y i < yL Y := by
  by_cases c : i < yN Y ∨ yL Y ≤ i
  · rw [f_out c]; omega
  · have := f_in ok (i := i) (by omega) (by omega)
    omega
theorem G_lt (ok : yOk Y) {s i : Nat} (hs : s ∈ yPP Y) (hi : i < yL Y) : yG Y s i < yL Y := List.mem_range.mp (((y_Gp ok).2.2.2.1 s hs).2 i |>.2.2.2.2 (List.mem_range.mpr hi))
theorem c_swapped (h : lyC S t Y) (ok : yOk Y) {s a : Nat} (hs : s ∈ yPP Y) (ha : a < yL Y) (hF : yF Y a = a) : F_X4_swapped sh f S t (I a) (I s) = some (I (yG Y s a)) := by
  have L12 := ok.2.2.2.2.2.2.1
  have v3 := ok.2.2.2.1.2
  obtain ⟨s6, ks⟩ := mem_PP.mp hs
  have acl : (I (a : Int)).toNatClampNeg = a := I_clN (by omega)
  unfold F_X4_swapped
  simp only [acl, if_neg (I_bnd (show a < 12 by omega) (by omega)), (h.2.2.2.2.2.2.1 a ha).2.1, bnd, pI_ge]
  by_cases c : a < yN Y
  · rw [if_neg (by omega), g_out (Or.inl c)]
  · have q3 := yP_lt Y a
    have pa := pt_a ok.2.2.2.1 (show yN Y ≤ a by omega) ha
    obtain ⟨t1, t2⟩ := spt_tf ⟨s, s6⟩ ⟨yP Y a, q3⟩
    simp only at t1 t2
    have kq := (ks (yP Y a) q3).1 pa.1
    have e : pI Y a = I (yP Y a) := by unfold pI; rw [if_neg c]
    have pcl : (I (yP Y a : Int)).toNatClampNeg = yP Y a := I_clN (by omega)
    have tcl : (I (spt s (yP Y a) : Int)).toNatClampNeg = spt s (yP Y a) := I_clN (by omega)
    have icl : (I ((3 * s + yP Y a : Nat) : Int)).toNatClampNeg = 3 * s + yP Y a := I_clN (by omega)
    rw [if_pos (by omega), e, I_tab s6 q3, icl, if_neg (I_bnd (show 3 * s + yP Y a < 18 by omega) (by omega)), t1, tcl, pcl, if_neg (I_bnd (show spt s (yP Y a) < 3 by omega) (by omega)), if_neg (I_bnd (show yP Y a < 3 by omega) (by omega)), (h.2.2.2.2.2.2.2 _ kq.1).2, (h.2.2.2.2.2.2.2 _ pa.1).2, (h.2.2.2.2.2.2.1 a ha).2.2.1, hF, (g_in ok ks (show yN Y ≤ a by omega) ha).1, I_add, I_sub]
    congr 2
    omega
end K9k
