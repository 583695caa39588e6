/-! THE LAW's steps. -/
section CWx
variable {sh : List Sh} {f : Nat} {S : St} {p : PC} {q : Option Nat} {w : Nat} {X : NS}
theorem cl14 {S1 : St} {x y v : Int32} (h : F_X8_letter sh f S 0 x y = some (v, S1)) : sI S1 0 14 = sI S 0 14 := by
  unfold F_X8_letter at h
  obtain ⟨b1, _, h⟩ := Option.bind_eq_some_iff.mp h
  split at h
  · obtain ⟨y2, _, h⟩ := Option.bind_eq_some_iff.mp h
    repeat' split at h
    all_goals first | exact al14 h | (cases h; exact sI_ne _ _ _ (by omega)) | cases h
  · cases h
theorem rl14 {T S2 : St} {x y v : Int32} (h : F_X12_letter sh f T 94 x y = some (v, S2)) : sI S2 0 14 = sI T 0 14 := by
  unfold F_X12_letter at h
  rw [bnd_e] at h
  have k : sI S2 0 14 = sI (uI T 94 0 0) 0 14 := by
    cases hq : sR (uI T 94 0 0) 94 5 with
    | none =>
      simp only [hq, oN] at h
      exact dn14 h
    | some z =>
      simp only [hq, oN] at h
      obtain ⟨y4, _, h⟩ := Option.bind_eq_some_iff.mp h
      split at h
      · exact dn14 h
      · obtain ⟨y5, _, h⟩ := Option.bind_eq_some_iff.mp h
        split at h
        · exact dn14 h
        · split at h
          · cases h
          · rw [bnd_e] at h
            have g := gr14 h
            exact g
  rw [k, sI_row _ _ _ (by omega)]
theorem sv_letter (H : inv sh S p q w X) (x y : Int32) : ∃ v S1 S2 X', F_X8_letter sh f S 0 x y = some (v, S1) ∧ F_X12_letter sh f S1 94 x y = some (v, S2) ∧ inv sh S2 p q w X' := by
  obtain ⟨v, S1, S2, X', a, b, c, e1, e2, e3, k⟩ := st_letter (sh := sh) (f := f) H.1 x y
  exact ⟨v, S1, S2, X', a, b, inv_keep H c rfl e1 e2 e3 ((rl14 b).trans (cl14 a)) (fun c hc => k c (by omega) (by omega) (by omega) (by omega))⟩
theorem lg_self (a : Int64) : lg_cmp a a = 0 := by rw [lgc]
def bdL (Ln : Nat) (l k : Int32) : Prop := ¬ (l + k < 0 ∨ Ln ≤ (l + k).toNatClampNeg)
def bd7 (Ln : Nat) (l : Int32) : Prop := bdL Ln l 1 ∧ bdL Ln l 2 ∧ bdL Ln l 3 ∧ bdL Ln l 4 ∧ bdL Ln l 5 ∧ bdL Ln l 6 ∧ bdL Ln l 7
def inK (k23 : List Sh → St → Int32 → Option Int32) (x : Int32) : Prop := ∀ sh S p q w X, inv sh S p q w X → k23 sh S x = some 1
variable {Ln : Nat} {xs : Nat → Int32} {l : Int32} {k23 : List Sh → St → Int32 → Option Int32}
theorem lw_0 (H : inv sh S p q w X) (hf : 20000 ≤ f) (B : bd7 Ln l) (K : inK k23 (l + 8)) : F_L_law_L160 f xs Ln k23 sh S l = some 1 := by
  obtain ⟨b1, b2, b3, b4, b5, b6, b7⟩ := B
  unfold bdL at *
  obtain ⟨v, S1, S2, X', a, b, c⟩ := sv_feed (f := f) H (by omega) (xs (l + 1).toNatClampNeg) (xs (l + 2).toNatClampNeg) (xs (l + 3).toNatClampNeg) (xs (l + 4).toNatClampNeg) (xs (l + 5).toNatClampNeg)
  unfold F_L_law_L160 F_L_law_L1234
  rw [if_neg b1, if_neg b2, if_neg b3, if_neg b4, if_neg b5, a, Option.bind_some, if_neg b1, if_neg b2, if_neg b3, if_neg b4, if_neg b5, b, Option.bind_some, if_pos rfl, bnd_e]
  exact K _ _ _ _ _ _ c
theorem lw_1 (H : inv sh S p q w X) (hf : 20000 ≤ f) (B : bd7 Ln l) (K : inK k23 (l + 8)) : F_L_law_L233 f xs Ln k23 sh S l = some 1 := by
  obtain ⟨b1, b2, b3, b4, b5, b6, b7⟩ := B
  unfold bdL at *
  obtain ⟨v, S1, S2, sh', p', q', w', X', a, b, e, c⟩ := sv_book (f := f) H (by omega) (xs (l + 1).toNatClampNeg)
  unfold F_L_law_L233 F_L_law_L1234
  rw [if_neg b1, a, Option.bind_some, if_neg b1, b, Option.bind_some, if_neg (fun z => z e), bnd_e, if_pos rfl, bnd_e]
  exact K _ _ _ _ _ _ c
theorem lw_2 (H : inv sh S p q w X) (K : inK k23 (l + 8)) : F_L_law_L258 f xs Ln k23 sh S l = some 1 := by
  obtain ⟨v, a, b, c⟩ := st_fault (f := f) H.1
  unfold F_L_law_L258 F_L_law_L1234
  rw [a, Option.bind_some, b, Option.bind_some, if_pos rfl, bnd_e]
  exact K _ _ _ _ _ _ (inv_u0 H 0)
theorem lw_3 (H : inv sh S p q w X) (K : inK k23 (l + 8)) : F_L_law_L271 f xs Ln k23 sh S l = some 1 := by
  obtain ⟨v, a, b, c⟩ := st_where (f := f) H.1
  unfold F_L_law_L271 F_L_law_L1234
  rw [a, Option.bind_some, b, Option.bind_some, if_pos rfl, bnd_e]
  exact K _ _ _ _ _ _ (inv_u0 H 0)
theorem lw_4 (H : inv sh S p q w X) (B : bd7 Ln l) (K : inK k23 (l + 8)) : F_L_law_L284 f xs Ln k23 sh S l = some 1 := by
  obtain ⟨b1, b2, b3, b4, b5, b6, b7⟩ := B
  unfold bdL at *
  obtain ⟨v, a, b, c⟩ := st_kind (f := f) H.1 (xs (l + 1).toNatClampNeg) (xs (l + 2).toNatClampNeg)
  unfold F_L_law_L284 F_L_law_L1234
  rw [if_neg b1, if_neg b2, a, Option.bind_some, if_neg b1, if_neg b2, b, Option.bind_some, if_pos rfl, bnd_e]
  exact K _ _ _ _ _ _ (inv_u0 H 0)
theorem lw_5 (H : inv sh S p q w X) (B : bd7 Ln l) (K : inK k23 (l + 8)) : F_L_law_L321 f xs Ln k23 sh S l = some 1 := by
  obtain ⟨b1, b2, b3, b4, b5, b6, b7⟩ := B
  unfold bdL at *
  obtain ⟨v, a, b, c⟩ := st_rule (f := f) H.1 (xs (l + 1).toNatClampNeg) (xs (l + 2).toNatClampNeg)
  unfold F_L_law_L321 F_L_law_L1234
  rw [if_neg b1, if_neg b2, a, Option.bind_some, if_neg b1, if_neg b2, b, Option.bind_some, if_pos rfl, bnd_e]
  exact K _ _ _ _ _ _ (inv_u0 H 0)
theorem lw_6 (H : inv sh S p q w X) (hf : 20000 ≤ f) (B : bd7 Ln l) (K : inK k23 (l + 8)) : F_L_law_L358 f xs Ln k23 sh S l = some 1 := by
  obtain ⟨b1, b2, b3, b4, b5, b6, b7⟩ := B
  unfold bdL at *
  obtain ⟨v, S1, S2, X', a, b, c⟩ := sv_meeting (f := f) H (by omega) (xs (l + 1).toNatClampNeg) (xs (l + 2).toNatClampNeg) (xs (l + 3).toNatClampNeg) (xs (l + 4).toNatClampNeg) (xs (l + 5).toNatClampNeg) (xs (l + 6).toNatClampNeg)
  unfold F_L_law_L358 F_L_law_L1234
  rw [if_neg b1, if_neg b2, if_neg b3, if_neg b4, if_neg b5, if_neg b6, a, Option.bind_some, if_neg b1, if_neg b2, if_neg b3, if_neg b4, if_neg b5, if_neg b6, b, Option.bind_some, if_pos rfl, bnd_e]
  exact K _ _ _ _ _ _ c
theorem lw_7 (H : inv sh S p q w X) (hf : 20000 ≤ f) (B : bd7 Ln l) (K : inK k23 (l + 8)) : F_L_law_L445 f xs Ln k23 sh S l = some 1 := by
  obtain ⟨b1, b2, b3, b4, b5, b6, b7⟩ := B
  unfold bdL at *
  obtain ⟨v, S1, S2, p', a, b, c⟩ := st_drawings (f := f) H hf (xs (l + 1).toNatClampNeg)
  unfold F_L_law_L445 F_L_law_L1234
  rw [if_neg b1, a, Option.bind_some, if_neg b1, b, Option.bind_some, if_pos rfl, bnd_e]
  exact K _ _ _ _ _ _ c
theorem lw_8 (H : inv sh S p q w X) (hf : 20000 ≤ f) (B : bd7 Ln l) (K : inK k23 (l + 8)) : F_L_law_L470 f xs Ln k23 sh S l = some 1 := by
  obtain ⟨b1, b2, b3, b4, b5, b6, b7⟩ := B
  unfold bdL at *
  obtain ⟨v, S2, a, b, c⟩ := st_drawing (f := f) H (by omega) (xs (l + 1).toNatClampNeg) (xs (l + 2).toNatClampNeg)
  unfold F_L_law_L470 F_L_law_L1234
  rw [if_neg b1, if_neg b2, a, Option.bind_some, if_neg b1, if_neg b2, b, Option.bind_some, if_pos rfl, bnd_e]
  exact K _ _ _ _ _ _ c
theorem lw_9 (H : inv sh S p q w X) (B : bd7 Ln l) (K : inK k23 (l + 8)) : F_L_law_L507 f xs Ln k23 sh S l = some 1 := by
  obtain ⟨b1, b2, b3, b4, b5, b6, b7⟩ := B
  unfold bdL at *
  obtain ⟨v, S2, a, b, c⟩ := st_point (f := f) H (xs (l + 1).toNatClampNeg) (xs (l + 2).toNatClampNeg)
  unfold F_L_law_L507 F_L_law_L1234
  rw [if_neg b1, if_neg b2, a, Option.bind_some, if_neg b1, if_neg b2, b, Option.bind_some, if_pos rfl, bnd_e]
  exact K _ _ _ _ _ _ c
theorem lw_10 (H : inv sh S p q w X) (hf : 20000 ≤ f) (B : bd7 Ln l) (K : inK k23 (l + 8)) : F_L_law_L544 f xs Ln k23 sh S l = some 1 := by
  obtain ⟨b1, b2, b3, b4, b5, b6, b7⟩ := B
  unfold bdL at *
  obtain ⟨v, S2, a, b, c⟩ := st_joined (f := f) H (by omega) (xs (l + 1).toNatClampNeg) (xs (l + 2).toNatClampNeg)
  unfold F_L_law_L544 F_L_law_L1234
  rw [if_neg b1, if_neg b2, a, Option.bind_some, if_neg b1, if_neg b2, b, Option.bind_some, if_pos rfl, bnd_e]
  exact K _ _ _ _ _ _ c
theorem lw_11 (H : inv sh S p q w X) (hf : 20000 ≤ f) (B : bd7 Ln l) (K : inK k23 (l + 8)) : F_L_law_L581 f xs Ln k23 sh S l = some 1 := by
  obtain ⟨b1, b2, b3, b4, b5, b6, b7⟩ := B
  unfold bdL at *
  obtain ⟨sh', k, S1, v, S2, a, e, b, t, z, c⟩ := st_side (f := f) H (by omega) (xs (l + 1).toNatClampNeg) (xs (l + 2).toNatClampNeg)
  have nb : ¬ ((0 : Int32) < 0 ∨ 1 ≤ (0 : Int32).toNatClampNeg) := by decide
  unfold F_L_law_L581 F_L_law_L1234
  rw [if_neg b1, if_neg b2, a, Option.bind_some, if_neg (fun z => z e), bnd_e, bnd_e, if_neg b1, if_neg b2, b, Option.bind_some, bnd_e, t, Option.bind_some, if_pos rfl]
  by_cases y : k = 0
  · have z' : lg_cmp (sL S2 158 (0 : Int32).toNatClampNeg) v.toInt64 = 0 := z y
    rw [if_pos y, if_neg nb, if_pos z', bnd_e]
    exact K _ _ _ _ _ _ c
  · rw [if_neg y, bnd_e]
    exact K _ _ _ _ _ _ c
theorem lw_12 (H : inv sh S p q w X) (hf : 20000 ≤ f) (K : inK k23 (l + 8)) : F_L_law_L649 f xs Ln k23 sh S l = some 1 := by
  obtain ⟨v, S2, a, b, c⟩ := st_pairings (f := f) H (by omega)
  unfold F_L_law_L649 F_L_law_L1234
  rw [a, Option.bind_some, b, Option.bind_some, if_pos rfl, bnd_e]
  exact K _ _ _ _ _ _ c
theorem lw_13 (H : inv sh S p q w X) (hf : 20000 ≤ f) (B : bd7 Ln l) (K : inK k23 (l + 8)) : F_L_law_L662 f xs Ln k23 sh S l = some 1 := by
  obtain ⟨b1, b2, b3, b4, b5, b6, b7⟩ := B
  unfold bdL at *
  obtain ⟨av, h0, h1, h2, h3, h4, h5, hv⟩ : ∃ av : Nat → Int, xs (l + 2).toNatClampNeg = I (av 0) ∧ xs (l + 3).toNatClampNeg = I (av 1) ∧ xs (l + 4).toNatClampNeg = I (av 2) ∧ xs (l + 5).toNatClampNeg = I (av 3) ∧ xs (l + 6).toNatClampNeg = I (av 4) ∧ xs (l + 7).toNatClampNeg = I (av 5) ∧ ∀ j, j < 6 → -2147483648 ≤ av j ∧ av j < 2147483648 := by
    refine ⟨fun j => if j = 0 then (xs (l + 2).toNatClampNeg).toInt else if j = 1 then (xs (l + 3).toNatClampNeg).toInt else if j = 2 then (xs (l + 4).toNatClampNeg).toInt else if j = 3 then (xs (l + 5).toNatClampNeg).toInt else if j = 4 then (xs (l + 6).toNatClampNeg).toInt else (xs (l + 7).toNatClampNeg).toInt, I_of _, I_of _, I_of _, I_of _, I_of _, I_of _, fun j hj => ?_⟩
    rcases (by omega : j = 0 ∨ j = 1 ∨ j = 2 ∨ j = 3 ∨ j = 4 ∨ j = 5) with rfl | rfl | rfl | rfl | rfl | rfl <;> exact I_bd _
  obtain ⟨v, S1, S2, a, b, c⟩ := st_same (f := f) H hf (xs (l + 1).toNatClampNeg) av hv
  rw [← h0, ← h1, ← h2, ← h3, ← h4, ← h5] at a b
  unfold F_L_law_L662 F_L_law_L1234
  rw [if_neg b1, if_neg b2, if_neg b3, if_neg b4, if_neg b5, if_neg b6, if_neg b7, a, Option.bind_some, if_neg b1, if_neg b2, if_neg b3, if_neg b4, if_neg b5, if_neg b6, if_neg b7, b, Option.bind_some, if_pos rfl, bnd_e]
  exact K _ _ _ _ _ _ c
theorem lw_14 (H : inv sh S p q w X) (hf : 20000 ≤ f) (B : bd7 Ln l) (K : inK k23 (l + 8)) : F_L_law_L763 f xs Ln k23 sh S l = some 1 := by
  obtain ⟨b1, b2, b3, b4, b5, b6, b7⟩ := B
  unfold bdL at *
  unfold F_L_law_L763 F_L_law_L1234
  rw [if_neg b1, if_neg b2, if_neg b3, if_neg b4]
  by_cases y : xs (l + 4).toNatClampNeg = 0
  · obtain ⟨v, S1, S2, a, b, c⟩ := st_sum (f := f) H hf (xs (l + 1).toNatClampNeg) (xs (l + 2).toNatClampNeg) (xs (l + 3).toNatClampNeg) 0
    rw [if_pos y, a, Option.bind_some, if_neg b1, if_neg b2, if_neg b3, if_neg b4, if_pos y, b, Option.bind_some, if_pos (lg_self _), bnd_e]
    exact K _ _ _ _ _ _ c
  · obtain ⟨v, S1, S2, a, b, c⟩ := st_sum (f := f) H hf (xs (l + 1).toNatClampNeg) (xs (l + 2).toNatClampNeg) (xs (l + 3).toNatClampNeg) 1
    rw [if_neg y, a, Option.bind_some, if_neg b1, if_neg b2, if_neg b3, if_neg b4, if_neg y, b, Option.bind_some, if_pos (lg_self _), bnd_e]
    exact K _ _ _ _ _ _ c
theorem lw_15 (H : inv sh S p q w X) (hf : 20000 ≤ f) (B : bd7 Ln l) (K : inK k23 (l + 8)) : F_L_law_L841 f xs Ln k23 sh S l = some 1 := by
  obtain ⟨b1, b2, b3, b4, b5, b6, b7⟩ := B
  unfold bdL at *
  unfold F_L_law_L841 F_L_law_L1234
  rw [if_neg b1, if_neg b2, if_neg b3, if_neg b4]
  by_cases y : xs (l + 4).toNatClampNeg = 0
  · obtain ⟨v, S1, S2, a, b, c⟩ := st_byPairings (f := f) H hf (xs (l + 1).toNatClampNeg) (xs (l + 2).toNatClampNeg) (xs (l + 3).toNatClampNeg) 0
    rw [if_pos y, a, Option.bind_some, if_neg b1, if_neg b2, if_neg b3, if_neg b4, if_pos y, b, Option.bind_some, if_pos (lg_self _), bnd_e]
    exact K _ _ _ _ _ _ c
  · obtain ⟨v, S1, S2, a, b, c⟩ := st_byPairings (f := f) H hf (xs (l + 1).toNatClampNeg) (xs (l + 2).toNatClampNeg) (xs (l + 3).toNatClampNeg) 1
    rw [if_neg y, a, Option.bind_some, if_neg b1, if_neg b2, if_neg b3, if_neg b4, if_neg y, b, Option.bind_some, if_pos (lg_self _), bnd_e]
    exact K _ _ _ _ _ _ c
theorem lw_16 (H : inv sh S p q w X) (B : bd7 Ln l) (K : inK k23 (l + 8)) : F_L_law_L919 f xs Ln k23 sh S l = some 1 := by
  obtain ⟨b1, b2, b3, b4, b5, b6, b7⟩ := B
  unfold bdL at *
  obtain ⟨v, S1, S2, X', a, b, c⟩ := sv_number (f := f) H (xs (l + 1).toNatClampNeg) (xs (l + 2).toNatClampNeg)
  unfold F_L_law_L919 F_L_law_L1234
  rw [if_neg b1, if_neg b2, a, Option.bind_some, if_neg b1, if_neg b2, b, Option.bind_some, if_pos rfl, bnd_e]
  exact K _ _ _ _ _ _ c
theorem lw_17 (H : inv sh S p q w X) (B : bd7 Ln l) (K : inK k23 (l + 8)) : F_L_law_L956 f xs Ln k23 sh S l = some 1 := by
  obtain ⟨b1, b2, b3, b4, b5, b6, b7⟩ := B
  unfold bdL at *
  obtain ⟨v, S1, S2, X', a, b, c⟩ := sv_letter (f := f) H (xs (l + 1).toNatClampNeg) (xs (l + 2).toNatClampNeg)
  unfold F_L_law_L956 F_L_law_L1234
  rw [if_neg b1, if_neg b2, a, Option.bind_some, if_neg b1, if_neg b2, b, Option.bind_some, if_pos rfl, bnd_e]
  exact K _ _ _ _ _ _ c
theorem lw_18 (H : inv sh S p q w X) (hf : 20000 ≤ f) (B : bd7 Ln l) (K : inK k23 (l + 8)) : F_L_law_L993 f xs Ln k23 sh S l = some 1 := by
  obtain ⟨b1, b2, b3, b4, b5, b6, b7⟩ := B
  unfold bdL at *
  obtain ⟨v, S1, S2, p', a, b, c⟩ := st_at (f := f) H hf (xs (l + 1).toNatClampNeg)
  unfold F_L_law_L993 F_L_law_L1234
  rw [if_neg b1, a, Option.bind_some, if_neg b1, b, Option.bind_some, if_pos rfl, bnd_e]
  exact K _ _ _ _ _ _ c
theorem lw_19 (H : inv sh S p q w X) (hf : 20000 ≤ f) (B : bd7 Ln l) (K : inK k23 (l + 8)) : F_L_law_L1018 f xs Ln k23 sh S l = some 1 := by
  obtain ⟨b1, b2, b3, b4, b5, b6, b7⟩ := B
  unfold bdL at *
  obtain ⟨v, S1, S2, p', a, b, c⟩ := st_parted (f := f) H hf (xs (l + 1).toNatClampNeg) (xs (l + 2).toNatClampNeg) (xs (l + 3).toNatClampNeg)
  unfold F_L_law_L1018 F_L_law_L1234
  rw [if_neg b1, if_neg b2, if_neg b3, a, Option.bind_some, if_neg b1, if_neg b2, if_neg b3, b, Option.bind_some, if_pos rfl, bnd_e]
  exact K _ _ _ _ _ _ c
theorem lw_20 (H : inv sh S p q w X) (hf : 20000 ≤ f) (B : bd7 Ln l) (K : inK k23 (l + 8)) : F_L_law_L1067 f xs Ln k23 sh S l = some 1 := by
  obtain ⟨b1, b2, b3, b4, b5, b6, b7⟩ := B
  unfold bdL at *
  obtain ⟨v, S1, S2, p', a, b, c⟩ := st_whole (f := f) H hf (xs (l + 1).toNatClampNeg) (xs (l + 2).toNatClampNeg) (xs (l + 3).toNatClampNeg)
  unfold F_L_law_L1067 F_L_law_L1234
  rw [if_neg b1, if_neg b2, if_neg b3, a, Option.bind_some, if_neg b1, if_neg b2, if_neg b3, b, Option.bind_some, if_pos rfl, bnd_e]
  exact K _ _ _ _ _ _ c
theorem lw_21 (H : inv sh S p q w X) (B : bd7 Ln l) (K : inK k23 (l + 8)) : F_L_law_L1116 f xs Ln k23 sh S l = some 1 := by
  obtain ⟨b1, b2, b3, b4, b5, b6, b7⟩ := B
  unfold bdL at *
  unfold F_L_law_L1116 F_L_law_L1234
  rw [if_neg b1]
  by_cases y : xs (l + 1).toNatClampNeg = 0
  · obtain ⟨v, a, b, c⟩ := st_worth (f := f) H.1 0
    rw [if_pos y, a, Option.bind_some, if_neg b1, if_pos y, b, Option.bind_some, if_pos (lg_self _), bnd_e]
    exact K _ _ _ _ _ _ (inv_u0 H 0)
  · obtain ⟨v, a, b, c⟩ := st_worth (f := f) H.1 1
    rw [if_neg y, a, Option.bind_some, if_neg b1, if_neg y, b, Option.bind_some, if_pos (lg_self _), bnd_e]
    exact K _ _ _ _ _ _ (inv_u0 H 0)
theorem lw_22 (H : inv sh S p q w X) (B : bd7 Ln l) (K : inK k23 (l + 8)) : F_L_law_L1158 f xs Ln k23 sh S l = some 1 := by
  obtain ⟨b1, b2, b3, b4, b5, b6, b7⟩ := B
  unfold bdL at *
  obtain ⟨v, a, b, c⟩ := st_rest (f := f) H.1 (xs (l + 1).toNatClampNeg)
  unfold F_L_law_L1158 F_L_law_L1234
  rw [if_neg b1, a, Option.bind_some, if_neg b1, b, Option.bind_some, if_pos rfl, bnd_e]
  exact K _ _ _ _ _ _ (inv_u0 H 0)
theorem lw_23 (H : inv sh S p q w X) (K : inK k23 (l + 8)) : F_L_law_L1183 f xs Ln k23 sh S l = some 1 := by
  obtain ⟨v, a, b, c⟩ := st_pole (f := f) H.1
  unfold F_L_law_L1183 F_L_law_L1234
  rw [a, Option.bind_some, b, Option.bind_some, if_pos rfl, bnd_e]
  exact K _ _ _ _ _ _ (inv_u0 H 0)
theorem lw_24 (H : inv sh S p q w X) (hf : 20000 ≤ f) (B : bd7 Ln l) (K : inK k23 (l + 8)) : F_L_law_L1196 f xs Ln k23 sh S l = some 1 := by
  obtain ⟨b1, b2, b3, b4, b5, b6, b7⟩ := B
  unfold bdL at *
  obtain ⟨v, S2, a, b, c⟩ := st_count (f := f) H (by omega) (xs (l + 1).toNatClampNeg)
  unfold F_L_law_L1196 F_L_law_L1234
  rw [if_neg b1, a, Option.bind_some, if_neg b1, b, Option.bind_some, if_pos rfl, bnd_e]
  exact K _ _ _ _ _ _ c
theorem lw_25 (H : inv sh S p q w X) (K : inK k23 (l + 8)) : F_L_law_L1221 f xs Ln k23 sh S l = some 1 := by
  obtain ⟨v, a, b, c⟩ := st_trouble (f := f) H.1
  unfold F_L_law_L1221 F_L_law_L1234
  rw [a, Option.bind_some, b, Option.bind_some, if_pos rfl, bnd_e]
  exact K _ _ _ _ _ _ (inv_u0 H 0)
end CWx
