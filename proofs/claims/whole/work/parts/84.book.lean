section B84
variable {sh : List Sh} {f : Nat} {S : St} {p : PC} {q : Option Nat} {w : Nat} {X : NS}
theorem zS_sm {U : St} {n c : Nat} (h : c < n) : Sm U (zS U n) c := ⟨if_pos h, if_pos h, if_pos h, if_pos h, if_pos h⟩
theorem st_book (h : inv0 sh S p q w X) (hf : 1000 ≤ f) (x : Int32) : ∃ v S1 S2 sh' p' q' w' X', F_X8_book sh f S 0 x = some (v, S1) ∧ F_X12_book sh f S1 94 x = some (sh', v, S2) ∧ (sh' = sh ∨ sh' = sh ++ bkSh) ∧ inv0 sh' S2 p' q' w' X' ∧ ((p' = p ∧ q' = q ∧ w' = w ∧ sh' = sh ∧ X'.2 = X.2 ∧ sI S2 0 14 = sI S 0 14 ∧ ∀ c, c ≠ 0 → c ≠ 1 → (c < p.2.1 ∨ p.2.1 + 9 < c) → c ≠ 94 → c ≠ 106 → (c < w ∨ w + 10 < c) → Sm S S2 c) ∨ sI S2 0 14 = 0) := by
  have t := h.2.2.2.2.1
  have dd := h.2.2.1.1
  by_cases c1 : x < 0
  · refine ⟨-1, uI S 0 16 2, rfS S 2, sh, p, q, w, X, ?_, ?_, Or.inl rfl, inv0_d h (by decide), Or.inl ⟨rfl, rfl, rfl, rfl, rfl, rfl, fun c a _ _ b _ _ => rfS_sm a b⟩⟩
    · simp only [F_X8_book, if_pos c1, F_X8_refused, bnd, Option.bind_some]
    · simp only [F_X12_book, bnd, if_pos c1, F_X12_refused, Option.bind_some]
      rfl
  · by_cases c2 : x ≤ I X.1
    · obtain ⟨z, rfl, hz⟩ := I_ex x
      rw [show (0 : Int32) = I 0 from rfl, I_lt hz (by omega)] at c1
      have m4 := t.1
      rw [I_le hz (by omega)] at c2
      obtain ⟨e, rfl⟩ : ∃ e : Nat, z = (e : Int) := ⟨z.toNat, by omega⟩
      have hT : ∀ i, -128 ≤ (sA S 2 i).toInt ∧ (sA S 2 i).toInt ≤ 127 := t.2.2.2.2
      have A := c_book (sh := sh) (f := f) (S := S) (T := fun i => (sA S 2 i).toInt) (e := e) (b := p.1) (d := p.2.1) (D0 := (fun _ => 0, X.2.1)) (m := X.1) hT hf t.1 (by omega) (by omega) (by omega) h.1 t.2.1 (fun i _ => I_of _) h.2.1.1 h.2.1.2.1
      have tape : ∀ U : St, sA U 107 = sA S 107 → ∀ i, i < e → sA U 107 i = I (sA S 2 i).toInt := fun U hU i _ => by rw [hU, ← t.2.2.2.1]; exact I_of _
      have ptU : ∀ U : St, sR U 94 = sR S 94 → ptR sh U q w := fun U hU => by unfold ptR; rw [hU]; exact h.2.2.2.1
      cases hp : pText (fun i => (sA S 2 i).toInt) e (fun _ => 0, X.2.1) with
      | inl a =>
        rw [hp] at A
        obtain ⟨S1, a1, a2, a3⟩ := A
        have s94 := a2.1 94 (by omega) (by omega)
        have s107 := a2.1 107 (by omega) (by omega)
        have B := r_book (sh := sh) (f := f) (S := uI (uI S1 1 1 0) 0 16 4) (T := fun i => (sA S 2 i).toInt) (e := e) (w := w) (D0 := (fun _ => 0, X.2.1)) (q := q) (m := X.1) hT hf t.1 (by omega) h.1 ((s94.I 9).trans t.2.2.1) (tape (uI (uI S1 1 1 0) 0 16 4) s107.1) (ptU (uI (uI S1 1 1 0) 0 16 4) s94.2.2.2.2)
        rw [hp] at B
        obtain ⟨S', b1, b2⟩ := B
        obtain ⟨k1, k2, k3⟩ := book_fail h a2 a3 b2
        exact ⟨-1, _, _, sh, p, q, w, tpX X 0, a1, b1, Or.inl rfl, k1, Or.inl ⟨rfl, rfl, rfl, rfl, rfl, k2, k3⟩⟩
      | inr D' =>
        rw [hp] at A
        obtain ⟨S1, a1, a2, a3, a4, a5, a6⟩ := A
        have s94 := a2.1 94 (by omega) (by omega)
        have s107 := a2.1 107 (by omega) (by omega)
        have u94 := bC_sm (U := S1) (b := p.1) (d := p.2.1) (c := 94) (by omega) (by omega) (by omega) (by omega)
        have u107 := bC_sm (U := S1) (b := p.1) (d := p.2.1) (c := 107) (by omega) (by omega) (by omega) (by omega)
        have B := r_book (sh := sh) (f := f) (S := bC S1 p.1 p.2.1) (T := fun i => (sA S 2 i).toInt) (e := e) (w := w) (D0 := (fun _ => 0, X.2.1)) (q := q) (m := X.1) hT hf t.1 (by omega) h.1 ((u94.I 9).trans ((s94.I 9).trans t.2.2.1)) (tape (bC S1 p.1 p.2.1) (u107.1.trans s107.1)) (ptU (bC S1 p.1 p.2.1) (u94.2.2.2.2.trans s94.2.2.2.2))
        rw [hp] at B
        obtain ⟨S', b1, b2, b3, b4⟩ := B
        obtain ⟨p5, p6, ck, hw, hz'⟩ := h.2.2.2.1
        cases hq : q with
        | none =>
          have wl := ck9_lt ck
          have l159 : 159 ≤ sh.length := by
            obtain ⟨tl, e'⟩ := h.1
            rw [e', List.length_append]
            have : SH.length = 159 := by decide +kernel
            omega
          obtain ⟨k1, k2⟩ := book_ok (sh' := sh ++ bkSh) (v1 := sh.length) (V := zS (uR S' 94 5 (some w)) sh.length) h a2 a3 a4 a5 a6 b1 b2 (fun c hc => zS_sm (by omega)) (by
            obtain ⟨tl, e'⟩ := h.1
            exact ⟨tl ++ bkSh, by rw [e', List.append_assoc]⟩) (ck_app bkSh ck) (ck_bk sh) (by omega) (by omega)
          exact ⟨_, _, _, sh ++ bkSh, bkP p, some w, sh.length, bkX D'.2, a1, b3 hq, Or.inr rfl, k1, Or.inr k2⟩
        | some z =>
          obtain ⟨z1, z2, z3⟩ := hz' z hq
          obtain ⟨k1, k2⟩ := book_ok (sh' := sh) (v1 := z) (V := uR S' 94 5 (some w)) h a2 a3 a4 a5 a6 b1 b2 (fun c hc => Sm.rfl) h.1 ck z1 z2 (by omega)
          exact ⟨_, _, _, sh, bkP p, some w, z, bkX D'.2, a1, b4 z hq, Or.inl rfl, k1, Or.inr k2⟩
    · have c3 : ¬ x ≤ sI S 1 1 := by rw [t.2.1]; exact c2
      have c4 : ¬ x ≤ sI (uI (uI S 0 16 2) 94 0 0) 94 9 := by rw [show sI (uI (uI S 0 16 2) 94 0 0) 94 9 = I X.1 from t.2.2.1]; exact c2
      refine ⟨-1, uI S 0 16 2, rfS S 2, sh, p, q, w, X, ?_, ?_, Or.inl rfl, inv0_d h (by decide), Or.inl ⟨rfl, rfl, rfl, rfl, rfl, rfl, fun c a _ _ b _ _ => rfS_sm a b⟩⟩
      · simp only [F_X8_book, if_neg c1, Nat.zero_add, if_neg c3, F_X8_refused, bnd, Option.bind_some]
      · simp only [F_X12_book, bnd, if_neg c1, if_neg c4, F_X12_refused, Option.bind_some]
        rfl
end B84
