/-! THE REFERENCE tells a worth, or why not. -/
section CHx
variable {sh : List Sh} {f : Nat} {S T : St} {q : Nat}
/-- what the reference may change -/
def rN (S S' : St) : Prop := (∀ j, sR S' 94 j = sR S 94 j) ∧ (∀ j, j = 3 ∨ j = 9 ∨ j = 17 ∨ j = 18 → sI S' 94 j = sI S 94 j) ∧ (∀ x, x ≠ 94 → ¬ (118 ≤ x ∧ x ≤ 155) → Sm S S' x) ∧ sJ S' 94 = sJ S 94
theorem rN.rfl : rN S S := ⟨fun _ => Eq.refl _, fun _ _ => Eq.refl _, fun _ _ _ => Sm.rfl, Eq.refl _⟩
theorem rN.trans {S' : St} (h : rN S T) (g : rN T S') : rN S S' := ⟨fun j => (g.1 j).trans (h.1 j), fun j hj => (g.2.1 j hj).trans (h.2.1 j hj), fun x a b => (h.2.2.1 x a b).trans (g.2.2.1 x a b), g.2.2.2.trans h.2.2.2⟩
theorem rN_fr {fs cs : List Nat} (F : fr fs cs S T) (a : ∀ j, j ∈ fs → 19 ≤ j) (b : ∀ x, x ∈ cs → 118 ≤ x ∧ x ≤ 155) : rN S T := ⟨fun j => F.R j, fun j hj => F.I (fun m => by have := a j m; omega), fun x x0 x1 => F.2.2.2 x x0 (fun m => x1 (b x m)), F.2.1⟩
theorem rN_sm (h : ∀ x, ¬ (118 ≤ x ∧ x ≤ 155) → Sm S T x) : rN S T := ⟨fun j => (h 94 (by omega)).R j, fun j _ => (h 94 (by omega)).I j, fun x _ b => h x b, (h 94 (by omega)).2.2.2.1⟩
theorem rN_bk {B : Bk} (h : rN S T) (hq : qOk q) (k : bkR S q B) : bkR T q B := bkR_sm k (fun x _ _ => h.2.2.1 x (by unfold qOk at hq; omega) (by unfold qOk at hq; omega))
theorem rA_of {U : St} {z : Int32} {r : Nat → Nat} {P : Int32} (h : rN S T) (z0 : z ≠ 0) (z5 : z = 5 → U = uI (uI (uI T 94 1 z) 94 2 (-1)) 94 4 P) (zn : z ≠ 5 → U = uI (uI (uI T 94 1 z) 94 2 (-1)) 94 4 (-1)) : rAns S U z r P := by
  have e : U = uI (uI (uI T 94 1 z) 94 2 (-1)) 94 4 (if z = 5 then P else -1) := by
    by_cases y : z = 5
    · rw [if_pos y]; exact z5 y
    · rw [if_neg y]; exact zn y
  subst e
  refine ⟨?_, ?_, sI_self _ _ _ _, h.1, fun j hj => ?_, fun x a b => (h.2.2.1 x a (by omega)).trans (by repeat' (first | exact Sm.rfl | (refine Sm.uI ?_ (by omega)) | (refine Sm.uA ?_ (by omega)) | (refine Sm.uJ ?_ (by omega)) | (refine Sm.uL ?_ (by omega)) | (refine Sm.uR ?_ (by omega)))), fun _ => ⟨h.2.2.2, (h.2.2.1 156 (by omega) (by omega)).trans (by repeat' (first | exact Sm.rfl | (refine Sm.uI ?_ (by omega)) | (refine Sm.uA ?_ (by omega)) | (refine Sm.uJ ?_ (by omega)) | (refine Sm.uL ?_ (by omega)) | (refine Sm.uR ?_ (by omega))))⟩, fun y => absurd y z0⟩
  · rw [sI_ne _ _ _ (by omega), sI_ne _ _ _ (by omega), sI_self]
  · rw [sI_ne _ _ _ (by omega), sI_self]
  · rw [sI_ne _ _ _ (by omega), sI_ne _ _ _ (by omega), sI_ne _ _ _ (by omega)]
    exact h.2.1 j hj
theorem r_den {z : Int32} {r : Nat → Nat} {P : Int32} (h : rN S T) (z0 : z ≠ 0 ∧ z ≠ 5) : ∃ U, F_X12_denied sh f T 94 z = some (0, U) ∧ rAns S U z r P := ⟨_, Eq.refl _, rA_of h z0.1 (fun y => absurd y z0.2) (fun _ => Eq.refl _)⟩
theorem r_den' {z : Int32} {r : Nat → Nat} {P : Int32} (h : rN S T) (z0 : z ≠ 0 ∧ z ≠ 5) : ∃ U, ((F_X12_denied sh f T 94 z).bind fun y => if ¬ (y.1 = 0 ∨ y.1 = 1) then none else some (y.1, y.2)) = some (0, U) ∧ rAns S U z r P := by
  obtain ⟨U, u0, u1⟩ := r_den (sh := sh) (f := f) (r := r) (P := P) h z0
  refine ⟨U, ?_, u1⟩
  rw [u0, Option.bind_some, if_neg (show ¬ ¬ ((0 : Int32) = 0 ∨ (0 : Int32) = 1) from fun x => x (Or.inl (Eq.refl _)))]
theorem r_pol' {r : Nat → Nat} {P : Int32} (h : rN S T) (h57 : sI T 94 57 = P) : ∃ U, ((F_X12_poled sh f T 94).bind fun y => if ¬ (y.1 = 0 ∨ y.1 = 1) then none else some (y.1, y.2)) = some (0, U) ∧ rAns S U 5 r P := by
  have e : F_X12_poled sh f T 94 = some (0, uI (uI (uI (uI T 94 1 5) 94 2 (-1)) 94 4 (-1)) 94 4 P) := by
    unfold F_X12_poled F_X12_denied
    rw [bnd_e, bnd_e, bnd_e, Option.bind_some, bnd_e, bnd_e, if_neg (show ¬ ¬ ((0 : Int32) = 0 ∨ (0 : Int32) = 1) from fun x => x (Or.inl (Eq.refl _))), sI_ne _ _ _ (by omega), sI_ne _ _ _ (by omega), sI_ne _ _ _ (by omega), h57]
  refine ⟨_, by rw [e, Option.bind_some, if_neg (show ¬ ¬ ((0 : Int32) = 0 ∨ (0 : Int32) = 1) from fun x => x (Or.inl (Eq.refl _)))], ?_⟩
  refine ⟨?_, ?_, sI_self _ _ _ _, h.1, fun j hj => ?_, fun x a b => (h.2.2.1 x a (by omega)).trans (by repeat' (first | exact Sm.rfl | (refine Sm.uI ?_ (by omega)) | (refine Sm.uA ?_ (by omega)) | (refine Sm.uJ ?_ (by omega)) | (refine Sm.uL ?_ (by omega)) | (refine Sm.uR ?_ (by omega)))), fun _ => ⟨h.2.2.2, (h.2.2.1 156 (by omega) (by omega)).trans (by repeat' (first | exact Sm.rfl | (refine Sm.uI ?_ (by omega)) | (refine Sm.uA ?_ (by omega)) | (refine Sm.uJ ?_ (by omega)) | (refine Sm.uL ?_ (by omega)) | (refine Sm.uR ?_ (by omega))))⟩, fun y => absurd y (by decide)⟩
  · rw [sI_ne _ _ _ (by omega), sI_ne _ _ _ (by omega), sI_ne _ _ _ (by omega), sI_self]
  · rw [sI_ne _ _ _ (by omega), sI_ne _ _ _ (by omega), sI_self]
  · rw [sI_ne _ _ _ (by omega), sI_ne _ _ _ (by omega), sI_ne _ _ _ (by omega), sI_ne _ _ _ (by omega)]
    exact h.2.1 j hj
theorem r_fnd' {r : Nat → Nat} {P : Int32} (hf : 1000 ≤ f) (h : rN S T) (hr : ∀ k, k < 4 → r k < pQ k) (h1 : ∀ k, k < 4 → sA T 155 k = I (r k : Nat)) : ∃ U, ((F_X12_isFound sh f T 94).bind (fun y1 => if y1.1 = 0 then (F_X12_denied sh f y1.2 94 6).bind (fun y2 => if ¬ (y2.1 = 0 ∨ y2.1 = 1) then none else some (y2.1, y2.2)) else (F_X12_granted sh f y1.2 94).bind (fun y3 => if ¬ (y3.1 = 0 ∨ y3.1 = 1) then none else some (y3.1, y3.2)))) = some (if fnd r = true then 1 else 0, U) ∧ rAns S U (if fnd r = true then 0 else 6) r P := by
  obtain ⟨W, w0, w1, w2⟩ := r_if (sh := sh) (f := f) hf hr h1
  rw [w0, Option.bind_some]
  by_cases y : fnd r = true
  · obtain ⟨a1, a2, a3, a4, a5, a6, a7⟩ := w1 y
    rw [if_pos y, if_pos y, if_neg (show ¬ (1 : Int32) = 0 by decide)]
    unfold F_X12_granted
    rw [bnd_e, bnd_e, bnd_e, Option.bind_some, if_neg (show ¬ ¬ ((1 : Int32) = 0 ∨ (1 : Int32) = 1) from fun x => x (Or.inr (Eq.refl _)))]
    refine ⟨_, Eq.refl _, ?_, ?_, ?_, fun j => (a6 j).trans (h.1 j), fun j hj => ?_, fun x a b => ((h.2.2.1 x a (by omega)).trans (a4 x a (by omega))).trans (by repeat' (first | exact Sm.rfl | (refine Sm.uI ?_ (by omega)) | (refine Sm.uA ?_ (by omega)) | (refine Sm.uJ ?_ (by omega)) | (refine Sm.uL ?_ (by omega)) | (refine Sm.uR ?_ (by omega)))), fun z => absurd (Eq.refl _) z, fun _ => ⟨a1, a2, a3⟩⟩
    · rw [sI_ne _ _ _ (by omega), sI_ne _ _ _ (by omega), sI_self]
    · rw [sI_ne _ _ _ (by omega), sI_self]
    · rw [sI_self, if_neg (show ¬ (0 : Int32) = 5 by decide)]
    · rw [sI_ne _ _ _ (by omega), sI_ne _ _ _ (by omega), sI_ne _ _ _ (by omega), a5]
      exact h.2.1 j hj
  · have := w2 (Bool.eq_false_iff.mpr y)
    subst this
    rw [if_neg y, if_neg y, if_pos (Eq.refl _)]
    exact r_den' h (by decide)
/-- a list for a cell -/
theorem r_fl {p1 n V : Nat} {B : Bk} {ek : Nat → Nat} {nu : Nat → Int} (hf : 20000 ≤ f) (hp : p1 = 118 ∨ p1 = 125) (h1 : sR T 94 5 = some q) (ck : ckX9 sh q = true) (hq : qOk q) (kr : bkR T q B) (ok : bkOk B) (n6 : 1 ≤ n ∧ n ≤ 6) (hk : ∀ i, i < n → ek i < bK B ∧ sA T (p1 + 1) i = I (ek i) ∧ sA T (p1 + 2) i = I (nu i)) (hV : 1 ≤ V ∧ V ≤ 3) (s2 : sI T p1 2 = I n) : ∃ U, F_X12_fills sh f T 94 p1 (I V) = some (if (dls B n ek V (4 ^ V)).length ≤ 200 then 1 else 0, U) ∧ fr [25, 26, 35, 38] (wC p1) T U ∧ ((dls B n ek V (4 ^ V)).length ≤ 200 → rW sh U p1 q B n ek nu V) := by
  obtain ⟨U, u0, u1, u2, u3, u4⟩ := r_fills (sh := sh) (f := f) (S := T) (q := q) (p1 := p1) (B := B) (n := n) (ek := ek) (V := V) hf h1 ck hq kr ok n6 (fun i hi => ⟨(hk i hi).1, (hk i hi).2.1⟩) hV s2 (by omega)
  refine ⟨U, u0, u1, fun l => ⟨hp, (u1.R 5).trans h1, ck, hq, bkR_fr u1 (fun x hx => wC_in (by omega) hx) hq kr, hV, u2, u3, fun i hi => ⟨?_, ?_⟩, l, u4 l⟩⟩
  · rw [u1.A (by omega) (by simp only [List.mem_cons, List.not_mem_nil, or_false]; omega)]
    exact (hk i hi).2.1
  · rw [u1.A (by omega) (by simp only [List.mem_cons, List.not_mem_nil, or_false]; omega)]
    exact (hk i hi).2.2
theorem rN_wC {p1 : Nat} (hp : p1 = 118 ∨ p1 = 125) (F : fr [25, 26, 35, 38] (wC p1) S T) : rN S T := rN_fr F (by decide) (fun x hx => by simp only [List.mem_cons, List.not_mem_nil, or_false] at hx; omega)
end CHx
