/-! AT. -/
section CLx
variable {sh : List Sh} {f : Nat} {S : St} {p : PC} {q : Option Nat} {w : Nat} {X : NS}
theorem rAns_0 {S2 : St} {z : Int32} {r : Nat → Nat} {P : Int32} (h : rAns (uI S 94 0 0) S2 z r P) : rAns S S2 z r P := by
  obtain ⟨h1, h2, h3, h4, h5, h6, h7, h8⟩ := h
  exact ⟨h1, h2, h3, h4, fun j hj => by rw [h5 j hj, sI_ne _ _ _ (by omega)], fun x a b => (show Sm S (uI S 94 0 0) x from (by repeat' (first | exact Sm.rfl | (refine Sm.uI ?_ (by omega)) | (refine Sm.uA ?_ (by omega)) | (refine Sm.uJ ?_ (by omega)) | (refine Sm.uL ?_ (by omega)) | (refine Sm.uR ?_ (by omega))))).trans (h6 x a b), fun z => ⟨(h7 z).1, (show Sm S (uI S 94 0 0) 156 from (by repeat' (first | exact Sm.rfl | (refine Sm.uI ?_ (by omega)) | (refine Sm.uA ?_ (by omega)) | (refine Sm.uJ ?_ (by omega)) | (refine Sm.uL ?_ (by omega)) | (refine Sm.uR ?_ (by omega))))).trans (h7 z).2⟩, h8⟩
theorem if01 {α : Type} {c : Prop} [Decidable c] {x y : α} : (if ¬ ((if c then (1 : Int32) else 0) = 0 ∨ (if c then (1 : Int32) else 0) = 1) then x else y) = y := by
  by_cases h : c
  · rw [if_pos h]
    exact if_neg (fun k => k (Or.inr rfl))
  · rw [if_neg h]
    exact if_neg (fun k => k (Or.inl rfl))
theorem c_alw (z : Int32) : F_X8_allowed sh f S 0 z = some (if z = 0 then 1 else 0, uI S 0 16 z) := by
  unfold F_X8_allowed
  rw [bnd_e]
  by_cases y : z = 0
  · rw [if_pos y, if_pos y]
  · rw [if_neg y, if_neg y]
theorem c_alw' (z : Int32) : ((F_X8_allowed sh f S 0 z).bind fun y => if ¬ (y.1 = 0 ∨ y.1 = 1) then none else some (y.1, y.2)) = some (if z = 0 then 1 else 0, uI S 0 16 z) := by
  rw [c_alw, Option.bind_some]
  exact if01
theorem r_den1 {z : Int32} : ((F_X12_denied sh f (uI (uI S 0 16 z) 94 0 0) 94 z).bind fun y => if ¬ (y.1 = 0 ∨ y.1 = 1) then none else some (y.1, y.2)) = some (0, rfS S z) := by
  unfold F_X12_denied
  rw [bnd_e, bnd_e, bnd_e, Option.bind_some, if_neg (show ¬ ¬ ((0 : Int32) = 0 ∨ (0 : Int32) = 1) from fun x => x (Or.inl rfl))]
  rfl
/-- the reference behind the class -/
theorem r_tl {V sd kd k0 : Nat} {a1 a2 b4 : Int32} (hf : 20000 ≤ f) (h0 : inv0 sh S p q w X) (hV : 1 ≤ V ∧ V ≤ 3) (n0 : xN X ≠ 0) (hs : sd < 64) (ha : sd = 0 ∧ a1 = -1 ∧ kd = 0 ∨ sd ≠ 0 ∧ a1 = I sd ∧ a2 = I k0 ∧ k0 < bK (xB X) ∧ kd = bF (xB X) k0) (hin : ∀ T, F_X12_in sh f T (I V) b4 3 = some 1) (S1 : St) (k : ∀ x, 94 ≤ x → Sm S S1 x) : ∃ S2, F_X12_tells sh f (uI S1 94 0 0) 94 a1 a2 (I V) b4 = some (if wCd (xB X) (xN X) (xE X) (xU X) (xL X) V sd kd = 0 then 1 else 0, S2) ∧ rAns S1 S2 (wCd (xB X) (xN X) (xE X) (xU X) (xL X) V sd kd) (fun k => rsL (xU X) (xL X) V sd kd k 0 (xD X V)) (plL (xU X) V sd kd (-1) (xD X V)) := by
  obtain ⟨e1, e2, e3, e4, e5⟩ := h0.2.2.2.2.2.2.2.1
  have bo := h0.2.2.2.2.2.2.1
  have lt := h0.2.2.2.2.2.2.2.2.1
  obtain ⟨zz, hz, ck, qo, kr⟩ := q_some h0 n0
  have r5 : sR S 94 5 = some zz := h0.2.2.2.1.1.trans hz
  have k94 := k 94 (by omega)
  obtain ⟨S2, s0, s1⟩ := r_tells (sh := sh) (f := f) (S := uI S1 94 0 0) (q := zz) (B := xB X) (n := xN X) (ek := xE X) (nu := xU X) (le := xL X) (V := V) (sd := sd) (kd := kd) (k0 := k0) hf bo.1 ⟨(e4 n0).1, e1⟩ hV (by rw [sI_ne _ _ _ (by omega), k94.I]; exact e3) (fun i hi => ⟨(e5 i hi).1, (e5 i hi).2.1, (e5 i hi).2.2.1, ((k 108 (by omega)).A i).trans (e5 i hi).2.2.2.2.1, ((k 109 (by omega)).A i).trans (e5 i hi).2.2.2.2.2.2⟩) ((k94.R 5).trans r5) ck qo (bkR_sm kr (fun x a b => (k x (by unfold qOk at qo; omega)).trans (uI_o (by unfold qOk at qo; omega)))) (fun l hl => ⟨(lt l hl).1, (lt l hl).2.1, ((k 110 (by omega)).A l).trans (lt l hl).2.2.2⟩) hs a1 a2 b4 ha (hin _)
  exact ⟨S2, s0, rAns_0 s1⟩
theorem wCd_4 {B : Bk} {n : Nat} {ek : Nat → Nat} {nu le : Nat → Int} {V sd kd : Nat} : wCd B n ek nu le V sd kd ≠ 4 := by
  unfold wCd
  by_cases a : evE B ek n = 0
  · rw [if_pos a]; decide
  · rw [if_neg a]
    by_cases b : sumE nu n ≠ 0
    · rw [if_pos b]; decide
    · rw [if_neg b]
      by_cases c : 200 < (dls B n ek V (4 ^ V)).length
      · rw [if_pos c]; decide
      · rw [if_neg c]
        by_cases d : plL nu V sd kd (-1) (dls B n ek V (4 ^ V)) ≠ -1
        · rw [if_pos d]; decide
        · rw [if_neg d]
          by_cases e : loL nu V sd kd false (dls B n ek V (4 ^ V)) = false ∧ fnd (fun k => rsL nu le V sd kd k 0 (dls B n ek V (4 ^ V))) = true
          · rw [if_pos e]; decide
          · rw [if_neg e]; decide
theorem cAns_94 {S1 : St} {z : Int32} {r : Nat → Nat} {P : Int32} (pd : ptD p) (c : cAns S S1 p z r P) : ∀ x, 94 ≤ x → Sm S (uI S1 0 16 z) x := fun x hx => (c.1 x (by omega) (by omega) (by have := pd.2.1; omega) (by omega) (by have := pd.2.2; omega)).trans (uI_o (by omega))
theorem st_at (h : inv sh S p q w X) (hf : 20000 ≤ f) (x : Int32) : ∃ v S1 S2 p', F_X8_at sh f S 0 x = some (v, S1) ∧ F_X12_at sh f S1 94 x = some (v, S2) ∧ inv sh S2 p' q w X := by
  have h0 := h.1
  obtain ⟨e1, e2, e3, e4, e5⟩ := h0.2.2.2.2.2.2.2.1
  have x6 : xN X ≤ 6 := e1
  have e2' : sI S (0 + 44) 2 = I (xN X) := e2
  have s17 : ∀ z : Int32, sI (uI (uI S 0 16 z) 94 0 0) 94 17 = I (xN X) := fun z => by
    rw [sI_ne _ _ _ (by omega), sI_row _ _ _ (by omega)]
    exact e3
  have rej : ∀ z : Int32, z ≠ 0 → z ≠ 4 ∧ z ≠ 5 → F_X8_orderRefusal sh f S 0 x = some z → F_X12_at sh f (uI S 0 16 z) 94 x = some (0, rfS S z) → ∃ v S1 S2 p', F_X8_at sh f S 0 x = some (v, S1) ∧ F_X12_at sh f S1 94 x = some (v, S2) ∧ inv sh S2 p' q w X := by
    intro z z0 z1 a b
    refine ⟨0, uI S 0 16 z, rfS S z, p, ?_, b, inv_rf h z1⟩
    unfold F_X8_at
    rw [a, Option.bind_some, if_neg z0, c_alw', if_neg z0]
  by_cases n0 : xN X = 0
  · refine rej 1 (by decide) (by decide) ?_ ?_
    · unfold F_X8_orderRefusal
      rw [e2', n0, if_pos (show I ((0 : Nat) : Int) = (0 : Int32) from rfl)]
    · unfold F_X12_at F_X12_tells
      rw [bnd_e, s17, n0, if_pos (show I ((0 : Nat) : Int) = (0 : Int32) from rfl), r_den1, Option.bind_some, if_neg (show ¬ ¬ ((0 : Int32) = 0 ∨ (0 : Int32) = 1) from fun x => x (Or.inl rfl))]
  · have n0' : ¬ I ((xN X : Nat) : Int) = (0 : Int32) := by
      rw [show (0 : Int32) = I ((0 : Nat) : Int) from rfl, I_eqN (by omega) (by omega)]
      exact n0
    have bad : (x < 1 ∨ ¬ x < 1 ∧ 3 < x) → ∃ v S1 S2 p', F_X8_at sh f S 0 x = some (v, S1) ∧ F_X12_at sh f S1 94 x = some (v, S2) ∧ inv sh S2 p' q w X := by
      intro hb
      refine rej 2 (by decide) (by decide) ?_ ?_
      · unfold F_X8_orderRefusal
        rw [e2', if_neg n0']
        rcases hb with c | ⟨c, d⟩
        · rw [if_pos c]
        · rw [if_neg c, if_neg (by rw [I_nle]; exact d)]
      · have i0 : F_X12_in sh f (uI (uI S 0 16 2) 94 0 0) x 1 3 = some 0 := by
          unfold F_X12_in
          rcases hb with c | ⟨c, d⟩
          · rw [if_pos c]
          · rw [if_neg c, if_pos d]
        unfold F_X12_at F_X12_tells
        rw [bnd_e, s17, if_neg n0', i0, Option.bind_some, if_pos rfl, r_den1, Option.bind_some, if_neg (show ¬ ¬ ((0 : Int32) = 0 ∨ (0 : Int32) = 1) from fun x => x (Or.inl rfl))]
    by_cases c1 : x < 1
    · exact bad (Or.inl c1)
    · by_cases c2 : x ≤ 3
      · obtain ⟨y, hy, y1, y2⟩ := inx (a := 1) (b := 3) (by omega) (by omega) c1 c2
        obtain ⟨V, rfl⟩ : ∃ V : Nat, y = (V : Int) := ⟨y.toNat, by omega⟩
        have hV : 1 ≤ V ∧ V ≤ 3 := by omega
        have o0 : F_X8_orderRefusal sh f S 0 (I V) = some 0 := by
          rw [hy] at c1 c2
          unfold F_X8_orderRefusal
          rw [e2', if_neg n0', if_neg c1, if_pos c2]
        obtain ⟨S1, s0, s1⟩ := c_rw (sh := sh) (f := f) (V := V) (sd := 0) (kd := 0) (kx := -1) hf h hV n0 (by omega) (by omega) (Or.inl rfl)
        obtain ⟨S2, t0, t1⟩ := r_tl (sh := sh) (f := f) (V := V) (sd := 0) (kd := 0) (k0 := 0) (a1 := -1) (a2 := -1) (b4 := 1) hf h0 hV n0 (by omega) (Or.inl ⟨rfl, rfl, rfl⟩) (fun T => by
          unfold F_X12_in
          rw [if_neg (by rw [show (1 : Int32) = I ((1 : Nat) : Int) from rfl, I_ltN (by omega) (by omega)]; omega), if_neg (by rw [show (3 : Int32) = I ((3 : Nat) : Int) from rfl, I_ltN (by omega) (by omega)]; omega)]) (uI S1 0 16 (wCd (xB X) (xN X) (xE X) (xU X) (xL X) V 0 0)) (cAns_94 h0.2.2.1 s1)
        obtain ⟨p', e⟩ := st_end h wCd_4 (fun _ k hk => rsL_lt _ _ (by have := pQ_b k; omega)) s1 t1
        have s0' : F_X8_reckonWhole sh f S 0 (I V) 0 (-1) = _ := s0
        rw [hy]
        refine ⟨if wCd (xB X) (xN X) (xE X) (xU X) (xL X) V 0 0 = 0 then 1 else 0, uI S1 0 16 (wCd (xB X) (xN X) (xE X) (xU X) (xL X) V 0 0), S2, p', ?_, ?_, e⟩
        · unfold F_X8_at
          rw [o0, Option.bind_some, if_pos rfl, s0', Option.bind_some, bnd_e, c_alw']
        · unfold F_X12_at
          rw [bnd_e, t0, Option.bind_some, if01]
      · exact bad (Or.inr ⟨c1, by rw [← I_nle]; exact c2⟩)
end CLx
