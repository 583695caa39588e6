/-! THE CLASS reckons the worth of all drawings, or of those with a cut. -/
section CJx
variable {sh : List Sh} {f : Nat} {S T : St} {p : PC} {q : Option Nat} {w : Nat} {X : NS}
theorem aW_L3 {a g b e m nn : Nat} (k k' : Int32) : ∀ n, F_X7_addWorths_L3 sh f a g b e m nn 0 k n = F_X7_addWorths_L3 sh f a g b e m nn 0 k' n
  | 0 => by funext S i; rfl
  | n + 1 => by
    funext S i
    have ih : F_X7_addWorths_L3 sh f a g b e m nn 0 k n = F_X7_addWorths_L3 sh f a g b e m nn 0 k' n := aW_L3 k k' n
    rw [F_X7_addWorths_L3, F_X7_addWorths_L3, ih]
    by_cases c : sI S g 17 ≤ i
    · rw [if_pos c, if_pos c]
    · rw [if_neg c, if_neg c, if_pos rfl, if_pos rfl]
      rfl
/-- no side: the kind doesn't matter -/
theorem aW_kd {a g b e m nn : Nat} (k k' : Int32) : F_X7_addWorths sh f S a g b e m nn 0 k = F_X7_addWorths sh f S a g b e m nn 0 k' := by
  unfold F_X7_addWorths
  rw [aW_L3 k k']
/-- what the class may change ahead of settling -/
def cN (S T : St) (p : PC) : Prop := (∀ x, (x < 14 ∨ 22 < x) → (x < p.2.2.2.1 ∨ p.2.2.2.1 + 16 < x) → ¬ (47 ≤ x ∧ x ≤ 58) → (x < p.2.2.2.2.2 ∨ p.2.2.2.2.2 + 2 < x) → Sm S T x) ∧ jnC T (fun _ _ => 0)
noncomputable def fCd (lb : Bool) (r : Nat → Nat) (P : Int32) : Int32 := if P ≠ -1 then 5 else if lb = false ∧ fnd r = true then 0 else 6
theorem c_no {z : Int32} {r : Nat → Nat} {P : Int32} (pd : ptD p) (N : cN S T p) (z0 : z ≠ 0) (z5 : z ≠ 5) : cAns S T p z r P := by
  have s0 : Sm S T 0 := N.1 0 (by omega) (by have := pd.2.1; omega) (by omega) (by have := pd.2.2; omega)
  exact ⟨fun x _ b c d e => N.1 x b c d e, N.2, fun j _ _ => s0.R j, fun j _ _ => s0.I j, fun _ => ⟨s0.I 15, s0.R 12, s0.R 13⟩, fun y => absurd y z0, fun y => absurd y z5⟩
theorem c_fin {r : Nat → Nat} {P : Int32} {lb : Bool} (hf : 1000 ≤ f) (h : inv0 sh S p q w X) (N : cN S T p) (hr : ∀ k, k < 4 → r k < pQ k) (h1 : ∀ k, k < 4 → sL T (p.2.2.2.2.2 + 1) k = J (r k : Nat)) (h2 : sI T p.2.2.2.2.2 2 = P) (h3 : sI T p.2.2.2.2.2 3 = b2I lb) : ∃ S1, F_X8_settle sh f T 0 = some (fCd lb r P, S1) ∧ cAns S S1 p (fCd lb r P) r P := by
  have pt := h.2.1
  have pd := h.2.2.1
  have gG := pd.2.1
  have gA := pd.2.2
  have s0 : Sm S T 0 := N.1 0 (by omega) (by omega) (by omega) (by omega)
  have ca : ckX7 sh p.2.2.2.2.2 = true := sh7 h.1 (by omega)
  have cw : ckX7 sh p.2.2.2.2.1 = true := sh7 h.1 (by omega)
  have st := c_set (sh := sh) (f := f) (S := T) (a := p.2.2.2.2.2) (w := p.2.2.2.2.1) hf hr h1 h2 h3 ((s0.R 13).trans pt.2.2.2.2.2) ((s0.R 12).trans pt.2.2.2.2.1) ca cw
  rw [st]
  unfold fCd
  by_cases y : P = -1
  · rw [if_pos y, if_neg (show ¬ P ≠ -1 from fun x => x y)]
    by_cases z : lb = false ∧ fnd r = true
    · rw [if_pos z, if_pos z]
      refine ⟨_, rfl, fun x a b c d e => (N.1 x b c d e).trans (by repeat' (first | exact Sm.rfl | (refine Sm.uI ?_ (by omega)) | (refine Sm.uA ?_ (by omega)) | (refine Sm.uJ ?_ (by omega)) | (refine Sm.uL ?_ (by omega)) | (refine Sm.uR ?_ (by omega)))), jnC_sm N.2 (by repeat' (first | exact Sm.rfl | (refine Sm.uI ?_ (by omega)) | (refine Sm.uA ?_ (by omega)) | (refine Sm.uJ ?_ (by omega)) | (refine Sm.uL ?_ (by omega)) | (refine Sm.uR ?_ (by omega)))), fun j a b => ?_, fun j a b => ?_, fun x => absurd rfl x, fun _ => ⟨sI_self _ _ _ _, ?_, ?_, ?_, ?_, h1⟩, fun x => absurd x (by decide)⟩
      · simp only [sR_uI]
        rw [sR_uR, if_pos rfl, if_neg b, sR_uR, if_pos rfl, if_neg a]
        exact s0.R j
      · rw [sI_ne _ _ _ a]
        exact s0.I j
      · simp only [sR_uI]
        rw [sR_uR, if_pos rfl, if_neg (by omega), sR_uR, if_pos rfl, if_pos rfl]
      · simp only [sR_uI]
        rw [sR_uR, if_pos rfl, if_pos rfl]
      · show sJ (uJ (uJ T p.2.2.2.2.2 4 (J (fT r))) p.2.2.2.2.2 5 (J (fU r : Nat))) p.2.2.2.2.2 4 = _
        rw [sJ_ne _ _ _ (by omega), sJ_self]
      · show sJ (uJ (uJ T p.2.2.2.2.2 4 (J (fT r))) p.2.2.2.2.2 5 (J (fU r : Nat))) p.2.2.2.2.2 5 = _
        rw [sJ_self]
    · rw [if_neg z, if_neg z]
      exact ⟨T, rfl, c_no pd N (by decide) (by decide)⟩
  · rw [if_neg y, if_pos y]
    refine ⟨_, rfl, fun x a b c d e => (N.1 x b c d e).trans (by repeat' (first | exact Sm.rfl | (refine Sm.uI ?_ (by omega)) | (refine Sm.uA ?_ (by omega)) | (refine Sm.uJ ?_ (by omega)) | (refine Sm.uL ?_ (by omega)) | (refine Sm.uR ?_ (by omega)))), jnC_sm N.2 (by repeat' (first | exact Sm.rfl | (refine Sm.uI ?_ (by omega)) | (refine Sm.uA ?_ (by omega)) | (refine Sm.uJ ?_ (by omega)) | (refine Sm.uL ?_ (by omega)) | (refine Sm.uR ?_ (by omega)))), fun j a b => s0.R j, fun j a b => ?_, fun _ => ⟨?_, s0.R 12, s0.R 13⟩, fun x => absurd x (by decide), fun _ => sI_self _ _ _ _⟩
    · rw [sI_ne _ _ _ b]
      exact s0.I j
    · rw [sI_ne _ _ _ (by omega)]
      exact s0.I 15
end CJx
