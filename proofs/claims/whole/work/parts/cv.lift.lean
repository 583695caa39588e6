/-! THE CALLS that leave the list, or take it away: with all that holds. -/
section CVx
variable {sh : List Sh} {f : Nat} {S : St} {p : PC} {q : Option Nat} {w : Nat} {X : NS}
theorem book_22 {S1 S' V : St} {e v1 : Nat} (h : inv0 sh S p q w X) (f1 : fD S S1 p.2.1) (f2 : fR (bI (bC S1 p.1 p.2.1) w e) S' w) (hV : ∀ c, c < 159 → Sm (uR S' 94 5 (some w)) V c) : Sm S (bR1 V v1) 22 := by
  have e1 := h.2.2.1.1
  have hw := h.2.2.2.1.2.2.2.1
  have a : Sm S' (bR1 V v1) 22 := ((uR94_sm (by omega)).trans (hV 22 (by omega))).trans (bR1_sm (by omega) (by omega))
  have b : Sm (bC S1 p.1 p.2.1) (bR1 V v1) 22 := ((bI_sm (by omega) (by omega)).trans (f2.1 22 (by omega) (by omega) (by omega))).trans a
  exact (f1.1 22 (by omega) (by omega)).trans ((bC_sm (by omega) (by omega) (by omega) (by omega)).trans b)
theorem sv_book (H : inv sh S p q w X) (hf : 1000 ≤ f) (x : Int32) : ∃ v S1 S2 sh' p' q' w' X', F_X8_book sh f S 0 x = some (v, S1) ∧ F_X12_book sh f S1 94 x = some (sh', v, S2) ∧ (sh' = sh ∨ sh' = sh ++ bkSh) ∧ inv sh' S2 p' q' w' X' := by
  have h := H.1
  have t := h.2.2.2.2.1
  have dd := h.2.2.1.1
  by_cases c1 : x < 0
  · refine ⟨-1, uI S 0 16 2, rfS S 2, sh, p, q, w, X, ?_, ?_, Or.inl rfl, inv_keep H (inv0_d h (by decide)) rfl rfl rfl rfl rfl (fun c hc => rfS_sm (by omega) (by omega))⟩
    · simp only [F_X8_book, if_pos c1, F_X8_refused, bnd, Option.bind_some]
    · simp only [F_X12_book, bnd, if_pos c1, F_X12_refused, Option.bind_some]
      rfl
  · by_cases c2 : x ≤ I X.1
    · obtain ⟨z, rfl, hz⟩ := I_ex x
      rw [show (0 : Int32) = I 0 from rfl, I_lt hz (by omega)] at c1
      have m4 := t.1
      rw [I_le hz (by omega)] at c2
      obtain ⟨e, rfl⟩ : ∃ e : Nat, z = (e : Int) := ⟨z.toNat, by omega⟩
      have hT : ∀ i, -128 ≤ (sA S 2 i).toInt ∧ (sA S 2 i).toInt ≤ 127 := t.2.2.2.2
      have A := c_book (sh := sh) (f := f) (S := S) (T := fun i => (sA S 2 i).toInt) (e := e) (b := p.1) (d := p.2.1) (D0 := (fun _ => 0, X.2.1)) (m := X.1) hT hf t.1 (by omega) (by omega) (by omega) h.1 t.2.1 (fun i _ => I_of _) h.2.1.1 h.2.1.2.1
      have tape : ∀ U : St, sA U 107 = sA S 107 → ∀ i, i < e → sA U 107 i = I (sA S 2 i).toInt := fun U hU i _ => by rw [hU, ← t.2.2.2.1]; exact I_of _
      have ptU : ∀ U : St, sR U 94 = sR S 94 → ptR sh U q w := fun U hU => by unfold ptR; rw [hU]; exact h.2.2.2.1
      cases hp : pText (fun i => (sA S 2 i).toInt) e (fun _ => 0, X.2.1) with
      | inl a =>
        rw [hp] at A
        obtain ⟨S1, a1, a2, a3⟩ := A
        have s94 := a2.1 94 (by omega) (by omega)
        have s107 := a2.1 107 (by omega) (by omega)
        have B := r_book (sh := sh) (f := f) (S := uI (uI S1 1 1 0) 0 16 4) (T := fun i => (sA S 2 i).toInt) (e := e) (w := w) (D0 := (fun _ => 0, X.2.1)) (q := q) (m := X.1) hT hf t.1 (by omega) h.1 ((s94.I 9).trans t.2.2.1) (tape (uI (uI S1 1 1 0) 0 16 4) s107.1) (ptU (uI (uI S1 1 1 0) 0 16 4) s94.2.2.2.2)
        rw [hp] at B
        obtain ⟨S', b1, b2⟩ := B
        obtain ⟨k1, k2, k3⟩ := book_fail h a2 a3 b2
        exact ⟨-1, _, _, sh, p, q, w, tpX X 0, a1, b1, Or.inl rfl, inv_keep H k1 rfl rfl rfl rfl k2 (fun c hc => k3 c (by omega) (by omega) (by omega) (by omega) (by omega) (by have := h.2.2.2.1.2.2.2.1; omega))⟩
      | inr D' =>
        rw [hp] at A
        obtain ⟨S1, a1, a2, a3, a4, a5, a6⟩ := A
        have s94 := a2.1 94 (by omega) (by omega)
        have s107 := a2.1 107 (by omega) (by omega)
        have u94 := bC_sm (U := S1) (b := p.1) (d := p.2.1) (c := 94) (by omega) (by omega) (by omega) (by omega)
        have u107 := bC_sm (U := S1) (b := p.1) (d := p.2.1) (c := 107) (by omega) (by omega) (by omega) (by omega)
        have B := r_book (sh := sh) (f := f) (S := bC S1 p.1 p.2.1) (T := fun i => (sA S 2 i).toInt) (e := e) (w := w) (D0 := (fun _ => 0, X.2.1)) (q := q) (m := X.1) hT hf t.1 (by omega) h.1 ((u94.I 9).trans ((s94.I 9).trans t.2.2.1)) (tape (bC S1 p.1 p.2.1) (u107.1.trans s107.1)) (ptU (bC S1 p.1 p.2.1) (u94.2.2.2.2.trans s94.2.2.2.2))
        rw [hp] at B
        obtain ⟨S', b1, b2, b3, b4⟩ := B
        obtain ⟨p5, p6, ck, hw, hz'⟩ := h.2.2.2.1
        cases hq : q with
        | none =>
          have wl := ck9_lt ck
          have l159 : 159 ≤ sh.length := by
            obtain ⟨tl, e'⟩ := h.1
            rw [e', List.length_append]
            have : SH.length = 159 := by decide +kernel
            omega
          obtain ⟨k1, k2⟩ := book_ok (sh' := sh ++ bkSh) (v1 := sh.length) (V := zS (uR S' 94 5 (some w)) sh.length) h a2 a3 a4 a5 a6 b1 b2 (fun c hc => zS_sm (by omega)) (by
            obtain ⟨tl, e'⟩ := h.1
            exact ⟨tl ++ bkSh, by rw [e', List.append_assoc]⟩) (ck_app bkSh ck) (ck_bk sh) (by omega) (by omega)
          exact ⟨_, _, _, sh ++ bkSh, bkP p, some w, sh.length, bkX D'.2, a1, b3 hq, Or.inr rfl, inv_none H k1 k2 (book_22 h a2 b1 (fun c hc => zS_sm (by omega)))⟩
        | some z =>
          obtain ⟨z1, z2, z3⟩ := hz' z hq
          obtain ⟨k1, k2⟩ := book_ok (sh' := sh) (v1 := z) (V := uR S' 94 5 (some w)) h a2 a3 a4 a5 a6 b1 b2 (fun c hc => Sm.rfl) h.1 ck z1 z2 (by omega)
          exact ⟨_, _, _, sh, bkP p, some w, z, bkX D'.2, a1, b4 z hq, Or.inl rfl, inv_none H k1 k2 (book_22 h a2 b1 (fun c hc => Sm.rfl))⟩
    · have c3 : ¬ x ≤ sI S 1 1 := by rw [t.2.1]; exact c2
      have c4 : ¬ x ≤ sI (uI (uI S 0 16 2) 94 0 0) 94 9 := by rw [show sI (uI (uI S 0 16 2) 94 0 0) 94 9 = I X.1 from t.2.2.1]; exact c2
      refine ⟨-1, uI S 0 16 2, rfS S 2, sh, p, q, w, X, ?_, ?_, Or.inl rfl, inv_keep H (inv0_d h (by decide)) rfl rfl rfl rfl rfl (fun c hc => rfS_sm (by omega) (by omega))⟩
      · simp only [F_X8_book, if_neg c1, Nat.zero_add, if_neg c3, F_X8_refused, bnd, Option.bind_some]
      · simp only [F_X12_book, bnd, if_neg c1, if_neg c4, F_X12_refused, Option.bind_some]
        rfl
theorem al14 {T S1 : St} {z v : Int32} (h : ((F_X8_allowed sh f T 0 z).bind fun y => if ¬ (y.1 = 0 ∨ y.1 = 1) then none else some (y.1, y.2)) = some (v, S1)) : sI S1 0 14 = sI T 0 14 := by
  rw [c_alw', Option.some.injEq, Prod.mk.injEq] at h
  rw [← h.2, sI_ne _ _ _ (by omega)]
theorem dn14 {T S2 : St} {z v : Int32} (h : ((F_X12_denied sh f T 94 z).bind fun y => if ¬ (y.1 = 0 ∨ y.1 = 1) then none else some (y.1, y.2)) = some (v, S2)) : sI S2 0 14 = sI T 0 14 := by
  unfold F_X12_denied at h
  rw [bnd_e, bnd_e, bnd_e, Option.bind_some, if_neg (show ¬ ¬ ((0 : Int32) = 0 ∨ (0 : Int32) = 1) from fun x => x (Or.inl rfl)), Option.some.injEq, Prod.mk.injEq] at h
  rw [← h.2, sI_row _ _ _ (by omega), sI_row _ _ _ (by omega), sI_row _ _ _ (by omega)]
theorem gr14 {T S2 : St} {v : Int32} (h : ((F_X12_granted sh f T 94).bind fun y => if ¬ (y.1 = 0 ∨ y.1 = 1) then none else some (y.1, y.2)) = some (v, S2)) : sI S2 0 14 = sI T 0 14 := by
  unfold F_X12_granted at h
  rw [bnd_e, bnd_e, bnd_e, Option.bind_some, if_neg (show ¬ ¬ ((1 : Int32) = 0 ∨ (1 : Int32) = 1) from fun x => x (Or.inr rfl)), Option.some.injEq, Prod.mk.injEq] at h
  rw [← h.2, sI_row _ _ _ (by omega), sI_row _ _ _ (by omega), sI_row _ _ _ (by omega)]
theorem cn14 {S1 : St} {x y v : Int32} (h : F_X8_number sh f S 0 x y = some (v, S1)) : sI S1 0 14 = sI S 0 14 := by
  unfold F_X8_number at h
  repeat' split at h
  all_goals first | exact al14 h | (cases h; exact sI_ne _ _ _ (by omega)) | cases h
theorem rn14 {T S2 : St} {x y v : Int32} (h : F_X12_number sh f T 94 x y = some (v, S2)) : sI S2 0 14 = sI T 0 14 := by
  unfold F_X12_number at h
  rw [bnd_e] at h
  have k : sI S2 0 14 = sI (uI T 94 0 0) 0 14 := by
    repeat' split at h
    all_goals first | exact dn14 h | exact gr14 h | cases h | skip
    all_goals (
      unfold F_X12_in at h
      repeat' split at h
      all_goals (try rw [Option.bind_some] at h)
      all_goals (repeat' split at h)
      all_goals first | exact dn14 h | exact gr14 h | (cases h; dsimp only; rw [sI_row _ _ _ (by omega), sI_row _ _ _ (by omega), sI_row _ _ _ (by omega)]; rfl) | cases h)
  rw [k, sI_row _ _ _ (by omega)]
theorem sv_number (H : inv sh S p q w X) (x y : Int32) : ∃ v S1 S2 X', F_X8_number sh f S 0 x y = some (v, S1) ∧ F_X12_number sh f S1 94 x y = some (v, S2) ∧ inv sh S2 p q w X' := by
  obtain ⟨v, S1, S2, X', a, b, c, e1, e2, e3, k⟩ := st_number (sh := sh) (f := f) H.1 x y
  exact ⟨v, S1, S2, X', a, b, inv_keep H c rfl e1 e2 e3 ((rn14 b).trans (cn14 a)) (fun c hc => k c (by omega) (by omega) (by omega) (by omega))⟩
theorem sv_feed (H : inv sh S p q w X) (hf : 100 ≤ f) (p1 p2 p3 p4 p5 : Int32) : ∃ v S1 S2 X', F_X8_feed sh f S 0 p1 p2 p3 p4 p5 = some (v, S1) ∧ F_X12_feed sh f S1 94 p1 p2 p3 p4 p5 = some (v, S2) ∧ inv sh S2 p q w X' := by
  obtain ⟨v, S1, S2, X', a, b, c, e, k⟩ := st_feed (sh := sh) (f := f) (p1 := p1) (p2 := p2) (p3 := p3) (p4 := p4) (p5 := p5) H.1 hf
  exact ⟨v, S1, S2, X', a, b, inv_keep H c rfl (by rw [e]) (by rw [e]) (by rw [e]) ((k 0 (by omega) (by omega) (by omega) (by omega)).I 14) (fun c hc => k c (by omega) (by omega) (by omega) (by omega))⟩
theorem sv_meeting (H : inv sh S p q w X) (hf : 100 ≤ f) (p1 p2 p3 p4 p5 p6 : Int32) : ∃ v S1 S2 X', F_X8_meeting sh f S 0 p1 p2 p3 p4 p5 p6 = some (v, S1) ∧ F_X12_meeting sh f S1 94 p1 p2 p3 p4 p5 p6 = some (v, S2) ∧ inv sh S2 p q w X' := by
  obtain ⟨v, S1, S2, X', a, b, c, e, g, k⟩ := st_meeting (sh := sh) (f := f) (p1 := p1) (p2 := p2) (p3 := p3) (p4 := p4) (p5 := p5) (p6 := p6) H.1 hf
  refine ⟨v, S1, S2, X', a, b, ?_⟩
  have kk : ∀ c, 22 ≤ c ∧ c ≤ 39 ∨ 71 ≤ c ∧ c ≤ 87 ∨ 111 ≤ c ∧ c ≤ 117 → Sm S S2 c := fun c hc => k c (by omega) (by omega) (by omega) (by omega) (by omega) (by omega) (by omega) (by omega)
  rcases g with ⟨g1, g2⟩ | g
  · exact inv_keep H c rfl (by rw [g1]) (by rw [g1]) (by rw [g1]) g2 kk
  · exact inv_none H c g (kk 22 (by omega))
end CVx
