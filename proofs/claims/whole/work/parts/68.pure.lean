section P68
variable {T : Nat → Int} {e : Nat} {D : Dr} {k : TK}
/-- a draft between two lines -/
def dOk (D : Dr) : Prop := bkKinds D.2 ∧ bR D.2 ≤ 4 ∧ (∀ r, r < bR D.2 → bkRule D.2 r) ∧ (bK D.2 = 0 → bR D.2 = 0) ∧ ∀ i, i < bK D.2 → D.1 i < 1099511627776
theorem dOk.w (h : dOk D) : dW D := ⟨fun i hi => by have := h.1.2 i hi; exact ⟨this.2.2.2.2.2.1, this.2.2.2.2.2.2.1⟩, fun i hi => (h.1.2 i hi).2.2.2.2.2.2.2.2.1, fun r hr => (h.2.2.1 r hr).2.1⟩
theorem pInt_bd {most : Nat} {zok : Bool} {v : Int × TK} (h : pInt T e most zok k = .inr v) : -(most : Int) ≤ v.1 ∧ v.1 ≤ most := by
  have key : ∀ (fr : Nat) (neg : Bool) (k : TK), pIntA T e most zok fr neg k = .inr v → -(most : Int) ≤ v.1 ∧ v.1 ≤ most := by
    intro fr neg k h
    unfold pIntA at h
    by_cases c : k.1 = 2
    · rw [if_pos c] at h
      by_cases c1 : most < tV k ∨ (tV k = 0 ∧ zok = false)
      · rw [if_pos c1] at h; cases h
      · rw [if_neg c1] at h
        cases h
        cases neg <;> simp <;> omega
    · rw [if_neg c] at h; cases h
  unfold pInt at h
  by_cases c : k.1 = 4
  · rw [if_pos c] at h; exact key _ _ _ h
  · rw [if_neg c] at h; exact key _ _ _ h
theorem pHeavy_bd {v : Nat} (h : pHeavy k = .inr v) : 1 ≤ v ∧ v ≤ 99 := by
  unfold pHeavy at h
  by_cases c : k.1 = 2
  · rw [if_pos c] at h
    by_cases c1 : tV k < 1 ∨ 99 < tV k
    · rw [if_pos c1] at h; cases h
    · rw [if_neg c1] at h
      cases h
      omega
  · rw [if_neg c] at h; cases h
theorem bkRule_up {B B' : Bk} {r : Nat} (h : bkRule B r) (hK : bK B ≤ bK B') (hZ : bZ B' r = bZ B r) (hW : bW B' r = bW B r) (hL : bL B' r = bL B r) (hG : bG B' r = bG B r) (hS : ∀ i, i < bK B → bS B' i = bS B i) : bkRule B' r := by
  obtain ⟨a1, a2, a3, a4, a5, a6⟩ := h
  unfold bkRule
  rw [hZ, hW, hL, hG]
  refine ⟨a1, a2, a3, a4, a5, fun k hk => ?_⟩
  obtain ⟨b1, b2⟩ := a6 k hk
  rw [hS _ b1]
  exact ⟨by omega, b2⟩
theorem own_ok {h w : Nat} (o : dOk D) (hK : bK D.2 < 8) (hw : w < 1099511627776) (hh : 1 ≤ h ∧ h ≤ 99) : dOk ((addK D w).1, dKind (addK D w).2 (bK D.2) (bK D.2) 0 h 0) := by
  obtain ⟨⟨k8, o1⟩, o2, o3, o4, o5⟩ := o
  refine ⟨⟨by show bK D.2 + 1 ≤ 8; omega, fun i hi => ?_⟩, o2, fun r hr => ?_, fun z => ?_, fun i hi => ?_⟩
  · have hi' : i < bK D.2 + 1 := hi
    show up1 (bF D.2) (bK D.2) (bK D.2) i < bK D.2 + 1 ∧ up1 (bF D.2) (bK D.2) (bK D.2) (up1 (bF D.2) (bK D.2) (bK D.2) i) = i ∧ 1 ≤ up1 (bH D.2) (bK D.2) h i ∧ up1 (bH D.2) (bK D.2) h i ≤ 99 ∧ up1 (bH D.2) (bK D.2) h (up1 (bF D.2) (bK D.2) (bK D.2) i) = up1 (bH D.2) (bK D.2) h i ∧ -9 ≤ up1 (bM D.2) (bK D.2) 0 i ∧ up1 (bM D.2) (bK D.2) 0 i ≤ 9 ∧ up1 (bM D.2) (bK D.2) 0 (up1 (bF D.2) (bK D.2) (bK D.2) i) = - up1 (bM D.2) (bK D.2) 0 i ∧ up1 (bS D.2) (bK D.2) 0 i ≤ 2 ∧ up1 (bS D.2) (bK D.2) 0 (up1 (bF D.2) (bK D.2) (bK D.2) i) = up1 (bS D.2) (bK D.2) 0 i ∧ (up1 (bS D.2) (bK D.2) 0 i = 2 → up1 (bF D.2) (bK D.2) (bK D.2) i ≠ i)
    simp only [up1_if]
    by_cases c : i = bK D.2
    · simp only [if_pos c, if_true]
      refine ⟨by omega, by omega, hh.1, hh.2, trivial, by omega, by omega, by omega, by omega, trivial, fun z => by omega⟩
    · have := o1 i (by omega)
      have f : ¬ bF D.2 i = bK D.2 := by omega
      simp only [if_neg c, if_neg f]
      exact ⟨by omega, this.2⟩
  · exact bkRule_up (B := D.2) (o3 r hr) (by show bK D.2 ≤ bK D.2 + 1; omega) rfl rfl rfl rfl (fun i hi => up1_ne _ _ (by omega))
  · exact absurd z (by show ¬ bK D.2 + 1 = 0; omega)
  · have hi' : i < bK D.2 + 1 := hi
    show up1 D.1 (bK D.2) w i < _
    rw [up1_if]
    by_cases c : i = bK D.2
    · rw [if_pos c]; exact hw
    · rw [if_neg c]; exact o5 i (by omega)
theorem two_ok {h w w' what : Nat} {m : Int} (o : dOk D) (hK : bK D.2 + 1 < 8) (hw : w < 1099511627776) (hw' : w' < 1099511627776) (hh : 1 ≤ h ∧ h ≤ 99) (hm : -9 ≤ m ∧ m ≤ 9) (ha : what = 1 ∨ what = 2) : dOk ((addK (addK D w) w').1, dKind (dKind (addK (addK D w) w').2 (bK D.2) (bK D.2 + 1) what h m) (bK D.2 + 1) (bK D.2) what h (-m)) := by
  obtain ⟨⟨k8, o1⟩, o2, o3, o4, o5⟩ := o
  refine ⟨⟨by show bK D.2 + 1 + 1 ≤ 8; omega, fun i hi => ?_⟩, o2, fun r hr => ?_, fun z => ?_, fun i hi => ?_⟩
  · have hi' : i < bK D.2 + 1 + 1 := hi
    have eF : ∀ i, bF (dKind (dKind (addK (addK D w) w').2 (bK D.2) (bK D.2 + 1) what h m) (bK D.2 + 1) (bK D.2) what h (-m)) i = if i = bK D.2 + 1 then bK D.2 else if i = bK D.2 then bK D.2 + 1 else bF D.2 i := fun i => by
      show up1 (up1 (bF D.2) (bK D.2) (bK D.2 + 1)) (bK D.2 + 1) (bK D.2) i = _
      rw [up1_if, up1_if]
    have eH : ∀ i, bH (dKind (dKind (addK (addK D w) w').2 (bK D.2) (bK D.2 + 1) what h m) (bK D.2 + 1) (bK D.2) what h (-m)) i = if i = bK D.2 + 1 then h else if i = bK D.2 then h else bH D.2 i := fun i => by
      show up1 (up1 (bH D.2) (bK D.2) h) (bK D.2 + 1) h i = _
      rw [up1_if, up1_if]
    have eM : ∀ i, bM (dKind (dKind (addK (addK D w) w').2 (bK D.2) (bK D.2 + 1) what h m) (bK D.2 + 1) (bK D.2) what h (-m)) i = if i = bK D.2 + 1 then -m else if i = bK D.2 then m else bM D.2 i := fun i => by
      show up1 (up1 (bM D.2) (bK D.2) m) (bK D.2 + 1) (-m) i = _
      rw [up1_if, up1_if]
    have eS : ∀ i, bS (dKind (dKind (addK (addK D w) w').2 (bK D.2) (bK D.2 + 1) what h m) (bK D.2 + 1) (bK D.2) what h (-m)) i = if i = bK D.2 + 1 then what else if i = bK D.2 then what else bS D.2 i := fun i => by
      show up1 (up1 (bS D.2) (bK D.2) what) (bK D.2 + 1) what i = _
      rw [up1_if, up1_if]
    have eK : bK (dKind (dKind (addK (addK D w) w').2 (bK D.2) (bK D.2 + 1) what h m) (bK D.2 + 1) (bK D.2) what h (-m)) = bK D.2 + 1 + 1 := rfl
    simp only [eF, eH, eM, eS, eK]
    by_cases c : i = bK D.2 + 1
    · have n1 : ¬ bK D.2 = bK D.2 + 1 := by omega
      simp only [if_pos c, if_neg n1, if_true]
      refine ⟨by show bK D.2 < bK D.2 + 1 + 1; omega, c.symm, hh.1, hh.2, trivial, (by first | trivial | omega), (by first | trivial | omega), (by first | trivial | omega), (by first | trivial | omega), trivial, fun z => by omega⟩
    · by_cases c' : i = bK D.2
      · simp only [if_neg c, if_pos c', if_true]
        refine ⟨by show bK D.2 + 1 < bK D.2 + 1 + 1; omega, c'.symm, hh.1, hh.2, trivial, (by first | trivial | omega), (by first | trivial | omega), (by first | trivial | omega), (by first | trivial | omega), trivial, fun z => by omega⟩
      · have := o1 i (by omega)
        have f : ¬ bF D.2 i = bK D.2 := by omega
        have f' : ¬ bF D.2 i = bK D.2 + 1 := by omega
        simp only [if_neg c, if_neg c', if_neg f, if_neg f']
        exact ⟨by show bF D.2 i < bK D.2 + 1 + 1; omega, this.2⟩
  · refine bkRule_up (B := D.2) (o3 r hr) (by show bK D.2 ≤ bK D.2 + 1 + 1; omega) rfl rfl rfl rfl (fun i hi => ?_)
    show up1 (up1 (bS D.2) (bK D.2) what) (bK D.2 + 1) what i = _
    rw [up1_ne _ _ (by omega), up1_ne _ _ (by omega)]
  · exact absurd z (by show ¬ bK D.2 + 1 + 1 = 0; omega)
  · have hi' : i < bK D.2 + 1 + 1 := hi
    show up1 (up1 D.1 (bK D.2) w) (bK D.2 + 1) w' i < _
    rw [up1_if, up1_if]
    by_cases c : i = bK D.2 + 1
    · rw [if_pos c]; exact hw'
    · rw [if_neg c]
      by_cases c' : i = bK D.2
      · rw [if_pos c']; exact hw
      · rw [if_neg c']; exact o5 i (by omega)
theorem pLegs_r : ∀ (r n : Nat) (D : Dr) (k : TK) (a : Dr × Nat × TK), pLegs T e r D n k = .inr a → n ≤ 4 → (∀ j, j < n → bG D.2 (bR D.2) j < bK D.2) → a.1.1 = D.1 ∧ (a.1.2.1 = D.2.1 ∧ bF a.1.2 = bF D.2 ∧ bH a.1.2 = bH D.2 ∧ bM a.1.2 = bM D.2 ∧ bS a.1.2 = bS D.2 ∧ bZ a.1.2 = bZ D.2 ∧ bW a.1.2 = bW D.2 ∧ bL a.1.2 = bL D.2) ∧ (∀ q, q ≠ bR D.2 → bG a.1.2 q = bG D.2 q) ∧ 3 ≤ a.2.1 ∧ a.2.1 ≤ 4 ∧ ∀ j, j < a.2.1 → bG a.1.2 (bR D.2) j < bK D.2
  | 0, n, D, k, a, h, _, _ => by cases h
  | r + 1, n, D, k, a, h, hn, hg => by
    rw [pLegs] at h
    by_cases c : 3 ≤ n ∧ k.1 = 1 ∧ tW k = 89
    · rw [if_pos c] at h
      cases h
      exact ⟨rfl, ⟨rfl, rfl, rfl, rfl, rfl, rfl, rfl, rfl⟩, fun _ _ => rfl, c.1, hn, hg⟩
    · rw [if_neg c] at h
      by_cases c1 : nmB k = true
      · rw [if_pos c1] at h
        cases hf : findN D.1 (tW k) (bK D.2) 0 with
        | none => rw [hf] at h; cases h
        | some i =>
          rw [hf] at h
          have il := (find_lt _ _ _ hf).2
          by_cases c4 : 4 ≤ n
          · simp only [if_pos c4] at h; cases h
          · simp only [if_neg c4] at h
            have z : bG (dLeg D.2 (bR D.2) n i) (bR D.2) = up1 (bG D.2 (bR D.2)) n i := up1_self _ _ _
            obtain ⟨a1, a2, a3, a4, a5, a6⟩ := pLegs_r r (n + 1) _ _ _ h (by omega) (fun j hj => by
              show bG (dLeg D.2 (bR D.2) n i) (bR D.2) j < bK D.2
              rw [z, up1_if]
              by_cases cj : j = n
              · rw [if_pos cj]; omega
              · rw [if_neg cj]; exact hg j (by omega))
            exact ⟨a1, a2, fun q hq => (a3 q hq).trans (up1_ne _ _ hq), a4, a5, a6⟩
      · rw [if_neg c1] at h; cases h
end P68
