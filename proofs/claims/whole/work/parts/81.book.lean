section B81
variable {sh : List Sh} {f : Nat} {S : St} {T : Nat → Int} {e w v1 : Nat} {D0 : Dr}
theorem ck_bk (sh : List Sh) : ckX9 (sh ++ bkSh) sh.length = true := by
  have k : ∀ (j : Nat) (c : Sh) (L : List (Nat × Sh)), bkSh[j]? = some c → ck_all L (sh ++ bkSh) sh.length = true → ck_all ((j, c) :: L) (sh ++ bkSh) sh.length = true := by
    intro j c L h g
    show (decide ((sh ++ bkSh)[sh.length + j]? = some c) && ck_all L (sh ++ bkSh) sh.length) = true
    rw [Bool.and_eq_true_iff]
    exact ⟨decide_eq_true (bk_at j h), g⟩
  unfold ckX9
  exact k 0 _ _ rfl (k 1 _ _ rfl (k 2 _ _ rfl (k 3 _ _ rfl (k 4 _ _ rfl (k 5 _ _ rfl (k 6 _ _ rfl (k 7 _ _ rfl (k 8 _ _ rfl (k 9 _ _ rfl (k 10 _ _ rfl rfl))))))))))
theorem ck11SH : ckX11 SH 106 = true := by decide +kernel
theorem sh11 (h : shOk sh) : ckX11 sh 106 = true := by
  obtain ⟨tl, rfl⟩ := h
  exact ck_app tl ck11SH
theorem ck9_lt (h : ckX9 sh w = true) : w + 10 < sh.length := (List.getElem?_eq_some_iff.mp (ckX9_ok h).2.2.2.2.2.2.2.2.2.2).1
/-- the reference's object after a text without a fault, its next book at v1 -/
def bR0 (S : St) (v1 : Nat) : St := uA (uA (uA (uI (uI (uR S 94 6 (some v1)) 94 17 0) 94 18 0) 110 0 1) 110 1 1) 110 2 1
def bR1 (S : St) (v1 : Nat) : St := uI (uI (uI (bR0 S v1) 94 1 0) 94 2 (-1)) 94 4 (-1)
theorem r_bk128 {x : Int32} (hf : 1000 ≤ f) : F_X12_book_L128 sh f 94 x S 94 v1 = (sR S 94 5).bind fun b1 => if ckX9 sh b1 = true then some (sh, sI (bR0 S v1) b1 0, bR1 S v1) else none := by
  have key : ∀ (g : Nat) (S : St), F_X12_book_L143 sh f 94 x (g + 4) S 0 = (sR S 94 5).bind fun b1 => if ckX9 sh b1 = true then some (sh, sI (uA (uA (uA S 110 0 1) 110 1 1) 110 2 1) b1 0, uI (uI (uI (uA (uA (uA S 110 0 1) 110 1 1) 110 2 1) 94 1 0) 94 2 (-1)) 94 4 (-1)) else none := by
    intro g S
    rw [F_X12_book_L143, if_neg (by decide), if_neg (by decide)]
    simp only [bnd]
    rw [F_X12_book_L143, if_neg (by decide), if_neg (by decide)]
    simp only [bnd]
    rw [F_X12_book_L143, if_neg (by decide), if_neg (by decide)]
    simp only [bnd]
    rw [F_X12_book_L143, if_pos (by decide)]
    rfl
  have := key (f - 4) (uI (uI (uR S 94 6 (some v1)) 94 17 0) 94 18 0)
  rw [show f - 4 + 4 = f by omega] at this
  unfold F_X12_book_L128
  simp only [bnd]
  rw [this]
  rfl
/-- the reference's object when the reading begins -/
def bI (S : St) (w e : Nat) : St := uI (uI (uI (uI (uI (uI (uI S 94 0 0) 94 10 (I e)) 94 9 0) 94 11 0) 94 3 0) w 0 0) w 1 0
theorem r_book0 (hT : ∀ i, -128 ≤ T i ∧ T i ≤ 127) (hf : 1000 ≤ f) (he : e ≤ 400) (hw : w = 95 ∨ 159 ≤ w) (ck : ckX9 sh w = true) (cx : ckX11 sh 106 = true) (h2 : ∀ i, i < e → sA S 107 i = I (T i)) (p : sR S 94 6 = some w) : (match pText T e D0 with
    | .inl a => ∃ S', ((F_X12_next sh f (bI S w e) 94).bind fun y11 => F_X12_readBook sh f y11 94) = some (.inr (106, S')) ∧ fR (bI S w e) S' w ∧ stp S' a
    | .inr D' => ∃ S', ((F_X12_next sh f (bI S w e) 94).bind fun y11 => F_X12_readBook sh f y11 94) = some (.inl S') ∧ fR (bI S w e) S' w ∧ dR S' w D' (bK D'.2)) := by
  have s1 : ∀ j, sI (bI S w e) 94 j = sI (uI (uI (uI (uI (uI S 94 0 0) 94 10 (I e)) 94 9 0) 94 11 0) 94 3 0) 94 j := fun j => by
    unfold bI
    rw [sI_row _ _ _ (by omega), sI_row _ _ _ (by omega)]
  obtain ⟨S1, g1, g2, g3⟩ := r_adv (sh := sh) (m := 0) hT he hf (Nat.zero_le _) (s1 10) (s1 11) (show ∀ i, i < e → sA (bI S w e) 107 i = I (T i) from h2)
  have sm : ∀ c, c ≠ 94 → Sm (bI S w e) S1 c := g2.1
  have R : rdR S1 w T e (D0.1, ((0, 0), D0.2.2)) (tok T e 0) 0 := by
    refine ⟨(g2.2.1 10 (by omega)).trans (s1 10), fun i hi => ?_, ?_, g3, ⟨⟨?_, ?_, fun i hi => by omega, fun r hr => absurd hr (Nat.not_lt_zero _)⟩, Nat.zero_le _, Nat.zero_le _, fun i hi => absurd hi (Nat.not_lt_zero _)⟩, tok_bd (Nat.zero_le _)⟩
    · rw [g2.2.2.2.2.1]; exact h2 i hi
    · rw [g2.2.2.2.1]; exact p
    · rw [(sm w (by omega)).I 0]
      exact (sI_ne _ _ _ (by omega)).trans (sI_self _ _ _ _)
    · rw [(sm w (by omega)).I 1]
      exact sI_self _ _ _ _
  have o0 : dOk (D0.1, ((0, 0), D0.2.2)) := ⟨⟨Nat.zero_le _, fun i hi => absurd hi (Nat.not_lt_zero _)⟩, Nat.zero_le _, fun r hr => absurd hr (Nat.not_lt_zero _), fun _ => rfl, fun i hi => absurd hi (Nat.not_lt_zero _)⟩
  have A := r_lines (sh := sh) (f := f) hT he hf hw ck cx 400 f S1 (D0.1, ((0, 0), D0.2.2)) (tok T e 0) (by omega) (by omega) (tok_M (Nat.zero_le _)).1 o0 R
  rw [g1, Option.bind_some]
  unfold pText
  cases hp : pLines T e 400 (D0.1, ((0, 0), D0.2.2)) (tok T e 0) with
  | inl a =>
    rw [hp] at A
    obtain ⟨S', a1, a2, a3⟩ := A
    exact ⟨S', a1, (fR.of9 g2).trans a2, a3⟩
  | inr D' =>
    rw [hp] at A
    obtain ⟨S', a1, a2, a3⟩ := A
    exact ⟨S', a1, (fR.of9 g2).trans a2, a3⟩
/-- the reference's object after a text with a fault -/
def bX (S : St) (a : Nat × Nat) : St := uI (uI (uI (uI S 94 3 (I a.1)) 94 1 4) 94 2 (I a.2)) 94 4 (-1)
theorem r_book {q : Option Nat} {m : Nat} (hT : ∀ i, -128 ≤ T i ∧ T i ≤ 127) (hf : 1000 ≤ f) (hm : m ≤ 400) (he : e ≤ m) (so : shOk sh) (h1 : sI S 94 9 = I m) (h2 : ∀ i, i < e → sA S 107 i = I (T i)) (pt : ptR sh S q w) : (match pText T e D0 with
    | .inl a => ∃ S', F_X12_book sh f S 94 (I e) = some (sh, -1, bX S' a) ∧ fR (bI S w e) S' w
    | .inr D' => ∃ S', fR (bI S w e) S' w ∧ dR S' w D' (bK D'.2) ∧ (q = none → F_X12_book sh f S 94 (I e) = some (sh ++ bkSh, I (bK D'.2), bR1 (zS (uR S' 94 5 (some w)) sh.length) sh.length)) ∧ ∀ z, q = some z → F_X12_book sh f S 94 (I e) = some (sh, I (bK D'.2), bR1 (uR S' 94 5 (some w)) z)) := by
  obtain ⟨p5, p6, ck, hw, hz⟩ := pt
  have cx := sh11 so
  have A := r_book0 (sh := sh) (f := f) (D0 := D0) hT hf (by omega) hw ck cx h2 p6
  have c1 : ¬ I (e : Int) < 0 := by rw [show (0 : Int32) = I 0 from rfl, I_lt (by omega) (by omega)]; omega
  have c2 : I (e : Int) ≤ sI (uI S 94 0 0) 94 9 := by rw [show sI (uI S 94 0 0) 94 9 = I m from h1, I_leN (by omega) (by omega)]; exact he
  have r6 : ∀ U : St, sR U = sR S → sR U 94 6 = some w := fun U hU => by rw [hU]; exact p6
  have st : F_X12_book sh f S 94 (I e) = (((F_X12_next sh f (bI S w e) 94).bind fun y11 => F_X12_readBook sh f y11 94).bind fun y12 => thr2 y12 (fun y12 =>
            oM (sR y12 94 5) ((sR y12 94 6).bind fun b14 => if ckX9 sh b14 = true then (bnd (uR y12 94 5 (some b14)) fun S15 => F_X12_book_L128 (sh ++ bkSh) f 94 (I e) (zS S15 sh.length) 94 sh.length) else none) fun b13 =>
            if ckX9 sh b13 = true then ((sR y12 94 6).bind fun b16 => if ckX9 sh b16 = true then (bnd (uR y12 94 5 (some b16)) fun S17 => F_X12_book_L128 sh f 94 (I e) S17 94 b13) else none) else none) fun w9 =>
          if ¬ ckX11 sh w9.1 = true then none else
          bnd (uI w9.2 94 3 (sI w9.2 w9.1 6)) fun S18 =>
          bnd (uI S18 94 1 (4)) fun S19 =>
          bnd (uI S19 94 2 (sI S19 w9.1 7)) fun S20 =>
          bnd (uI S20 94 4 (-1)) fun S21 =>
          some (sh, (-1), S21)) := by
    unfold F_X12_book
    simp only [bnd, if_neg c1, if_pos c2]
    have e1 : sR (uI (uI (uI (uI (uI S 94 0 0) 94 10 (I e)) 94 9 0) 94 11 0) 94 3 0) 94 6 = some w := p6
    have e2 : sR (uI (uI (uI (uI (uI (uI S 94 0 0) 94 10 (I e)) 94 9 0) 94 11 0) 94 3 0) w 0 0) 94 6 = some w := p6
    rw [e1, Option.bind_some, if_pos ck, e2, Option.bind_some, if_pos ck, Option.bind_assoc]
    rfl
  cases hp : pText T e D0 with
  | inl a =>
    rw [hp] at A
    obtain ⟨S', a1, a2, a3⟩ := A
    refine ⟨S', ?_, a2⟩
    rw [st, a1, Option.bind_some]
    show (if ¬ ckX11 sh 106 = true then none else some (sh, (-1 : Int32), uI (uI (uI (uI S' 94 3 (sI S' 106 6)) 94 1 4) 94 2 (sI S' 106 7)) 94 4 (-1))) = _
    rw [if_neg (by rw [cx]; decide), a3.1, a3.2]
    rfl
  | inr D' =>
    rw [hp] at A
    obtain ⟨S', a1, a2, a3⟩ := A
    have r5 : sR S' 94 5 = q := (congrFun (congrFun a2.2.2.2 94) 5).trans p5
    have r6' : sR S' 94 6 = some w := (congrFun (congrFun a2.2.2.2 94) 6).trans p6
    refine ⟨S', a2, a3, fun hq => ?_, fun z hq => ?_⟩
    · have wl := ck9_lt ck
      rw [st, a1, Option.bind_some]
      show oM (sR S' 94 5) _ _ = _
      rw [r5, hq]
      show ((sR S' 94 6).bind fun b14 => if ckX9 sh b14 = true then (bnd (uR S' 94 5 (some b14)) fun S15 => F_X12_book_L128 (sh ++ bkSh) f 94 (I e) (zS S15 sh.length) 94 sh.length) else none) = _
      rw [r6', Option.bind_some, if_pos ck]
      simp only [bnd]
      rw [r_bk128 hf]
      have l94 : 94 < sh.length := by omega
      have q5 : sR (zS (uR S' 94 5 (some w)) sh.length) 94 5 = some w := by
        show (if 94 < sh.length then (uR S' 94 5 (some w)).2.2.2.2 94 else fun _ => none) 5 = _
        rw [if_pos l94]
        rfl
      rw [q5, Option.bind_some, if_pos (show ckX9 (sh ++ bkSh) w = true from ck_app bkSh ck)]
      have n0 : sI (bR0 (zS (uR S' 94 5 (some w)) sh.length) sh.length) w 0 = I (bK D'.2) := by
        unfold bR0
        show sI (uI (uI (zS (uR S' 94 5 (some w)) sh.length) 94 17 0) 94 18 0) w 0 = _
        rw [sI_row _ _ _ (by omega), sI_row _ _ _ (by omega)]
        show (if w < sh.length then (uR S' 94 5 (some w)).2.2.1 w else fun _ => 0) 0 = _
        rw [if_pos (by omega)]
        exact a3.1.1
      rw [n0]
    · obtain ⟨z1, z2, z3⟩ := hz z hq
      rw [st, a1, Option.bind_some]
      show oM (sR S' 94 5) _ _ = _
      rw [r5, hq]
      show (if ckX9 sh z = true then ((sR S' 94 6).bind fun b16 => if ckX9 sh b16 = true then (bnd (uR S' 94 5 (some b16)) fun S17 => F_X12_book_L128 sh f 94 (I e) S17 94 z) else none) else none) = _
      rw [if_pos z1, r6', Option.bind_some, if_pos ck]
      simp only [bnd]
      rw [r_bk128 hf, show sR (uR S' 94 5 (some w)) 94 5 = some w from rfl, Option.bind_some, if_pos ck]
      have n0 : sI (bR0 (uR S' 94 5 (some w)) z) w 0 = I (bK D'.2) := by
        unfold bR0
        show sI (uI (uI S' 94 17 0) 94 18 0) w 0 = _
        rw [sI_row _ _ _ (by omega), sI_row _ _ _ (by omega)]
        exact a3.1.1
      rw [n0]
end B81
