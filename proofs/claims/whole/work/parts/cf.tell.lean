/-! THE FOUR RESTS of the reference. -/
section CFx
theorem loL_z (nu : Nat → Int) (V sd kd : Nat) : ∀ (L : List Dw) (b : Bool), loL nu V sd kd b L = (b || (List.range 4).any (fun k => zL nu V sd kd k L))
  | [], b => by rw [loL]; cases b <;> rfl
  | d :: r, b => by
    rw [loL, loL_z nu V sd kd r]
    have e4 : List.range 4 = [0, 1, 2, 3] := rfl
    unfold lo4
    rw [e4]
    simp only [List.any_cons, List.any_nil, zL, Bool.or_false]
    cases usd V sd kd d
    · simp
    · simp only [if_true, Bool.true_and]
      cases b <;> cases (blN nu sd kd 0 d == 0) <;> cases (blN nu sd kd 1 d == 0) <;> cases (blN nu sd kd 2 d == 0) <;> cases (blN nu sd kd 3 d == 0) <;> simp
variable {sh : List Sh} {f : Nat} {S : St} {q : Nat}
abbrev tG (S S' : St) : Prop := fr [25, 26, 40, 57] [132, 133, 134, 135, 136, 155] S S'
theorem tG_c {S S' : St} (h : tG S S') {x : Nat} (h1 : x ≠ 94) (h2 : x < 132) : Sm S S' x := h.2.2.2 x h1 (by simp only [List.mem_cons, List.not_mem_nil, or_false]; omega)
theorem rW_G {S' : St} {p1 : Nat} {B : Bk} {n : Nat} {ek : Nat → Nat} {nu : Nat → Int} {V : Nat} (h : rW sh S p1 q B n ek nu V) (F : tG S S') : rW sh S' p1 q B n ek nu V := by
  obtain ⟨h1, h2, h3, h4, h5, h6, h7, h8, h9, h10, h11, h12, h13⟩ := h
  have c : ∀ x, p1 ≤ x → x ≤ p1 + 6 → Sm S S' x := fun x a b => tG_c F (by omega) (by omega)
  refine ⟨h1, (F.R 5).trans h2, h3, h4, bkR_fr F (by decide) h4 h5, h6, ((c p1 (by omega) (by omega)).I 1).trans h7, ((c p1 (by omega) (by omega)).I 2).trans h8, fun x hx => ⟨((c (p1 + 1) (by omega) (by omega)).A x).trans (h9 x hx).1, ((c (p1 + 2) (by omega) (by omega)).A x).trans (h9 x hx).2⟩, h10, ((c p1 (by omega) (by omega)).I 0).trans h11, ((c p1 (by omega) (by omega)).I 3).trans h12, fun i d hi => ?_⟩
  obtain ⟨r1, r2, r3, r4⟩ := h13 i d hi
  exact ⟨fun p hp => ((c (p1 + 3) (by omega) (by omega)).A _).trans (r1 p hp), ((c (p1 + 6) (by omega) (by omega)).L i).trans r2, ((c (p1 + 5) (by omega) (by omega)).A i).trans r3, ((c (p1 + 4) (by omega) (by omega)).A i).trans r4⟩
theorem r_133 {B : Bk} {n : Nat} {ek : Nat → Nat} {nu le : Nat → Int} {V sd kd : Nat} (hf : 1000 ≤ f) (h : rW sh S 118 q B n ek nu V) (hn : nuB nu n) (hle : ∀ l, l < 3 → -99 ≤ le l ∧ le l ≤ 99 ∧ sA S 110 l = I (le l)) (hs : sd < 64) (hkd : kd < 8) (a2 a3 b2 b3 b4 : Int32) (ha : sd = 0 ∧ a2 = -1 ∨ sd ≠ 0 ∧ a2 = I sd ∧ a3 = I kd) : ∀ (d m nf : Nat) (T : St), m + d = 4 → d < nf → tG S T → (∀ j, j < m → sA T 155 j = I (rsL nu le V sd kd j 0 (dls B n ek V (4 ^ V)) : Nat) ∧ zL nu V sd kd j (dls B n ek V (4 ^ V)) = false) → ∃ T', tG S T' ∧ ((∃ k, k < 4 ∧ zL nu V sd kd k (dls B n ek V (4 ^ V)) = true) ∧ F_X12_tells_L133 sh f 94 a2 b2 b3 b4 nf T a3 (I m) = (F_X12_denied sh f T' 94 6).bind (fun y => if ¬ (y.1 = 0 ∨ y.1 = 1) then none else some (y.1, y.2)) ∨ (∀ k, k < 4 → sA T' 155 k = I (rsL nu le V sd kd k 0 (dls B n ek V (4 ^ V)) : Nat) ∧ zL nu V sd kd k (dls B n ek V (4 ^ V)) = false) ∧ F_X12_tells_L133 sh f 94 a2 b2 b3 b4 nf T a3 (I m) = (F_X12_isFound sh f T' 94).bind (fun y1 => if y1.1 = 0 then (F_X12_denied sh f y1.2 94 6).bind (fun y2 => if ¬ (y2.1 = 0 ∨ y2.1 = 1) then none else some (y2.1, y2.2)) else (F_X12_granted sh f y1.2 94).bind (fun y3 => if ¬ (y3.1 = 0 ∨ y3.1 = 1) then none else some (y3.1, y3.2)))) := by
  intro d
  induction d with
  | zero =>
    intro m nf T h1 h2 F g
    obtain ⟨nf, rfl⟩ : ∃ e, nf = e + 1 := ⟨nf - 1, by omega⟩
    have : m = 4 := by omega
    subst this
    rw [F_X12_tells_L133, if_pos (by decide)]
    exact ⟨T, F, Or.inr ⟨g, rfl⟩⟩
  | succ d ih =>
    intro m nf T h1 h2 F g
    obtain ⟨nf, rfl⟩ : ∃ e, nf = e + 1 := ⟨nf - 1, by omega⟩
    have hT := rW_G h F
    have pb := pQ_b m
    have rl := rsL_lt (nu := nu) (le := le) (V := V) (sd := sd) (kd := kd) (k := m) (dls B n ek V (4 ^ V)) 0 (by omega)
    obtain ⟨U, u0, u1⟩ := r_restOf (sh := sh) (f := f) (k := m) hf hT hn (fun l hl => ⟨(hle l hl).1, (hle l hl).2.1, ((tG_c F (by omega) (by omega)).A l).trans (hle l hl).2.2⟩) hs hkd (by omega) a2 a3 ha
    have FU : tG S U := F.trans (u1.mono (by decide) (by decide))
    have pr := r_prm (sh := sh) (f := f) (S := T) (k := m) (by omega)
    have nb : ¬ (I (m : Int) < 0 ∨ 4 ≤ m) := I_bnd (show m < 4 by omega) (by omega)
    have u0' : F_X12_restOf sh f T 94 (94 + 24) (I (pQ m : Nat)) a2 a3 = _ := u0
    have U5 : ∀ j, sA U 155 j = sA T 155 j := fun j => (tF_c u1 (by omega) (by omega)).A j
    rw [F_X12_tells_L133, if_neg (by rw [show (4 : Int32) = I ((4 : Nat) : Int) from rfl, I_leN (by omega) (by omega)]; omega), pr, Option.bind_some, u0', Option.bind_some, I_clN (show m < _ by omega), if_neg nb, bnd_e, if_neg nb]
    have ss : ∀ v : Int32, sA (uA U (94 + 61) m v) (94 + 61) m = v := fun v => by rw [sA_uA, if_pos rfl, up1_if, if_pos rfl]
    by_cases z : zL nu V sd kd m (dls B n ek V (4 ^ V)) = true
    · rw [if_pos z, ss, if_pos rfl]
      exact ⟨_, FU.uA _ _ (by decide), Or.inl ⟨⟨m, by omega, z⟩, rfl⟩⟩
    · rw [if_neg z, ss, if_neg (show ¬ I (rsL nu le V sd kd m 0 (dls B n ek V (4 ^ V)) : Nat) = (-1 : Int32) by rw [show (-1 : Int32) = I (-1) from rfl, I_eq (by omega) (by omega)]; omega), bnd_e, I_suc]
      refine ih (m + 1) nf _ (by omega) (by omega) (FU.uA _ _ (by decide)) (fun j hj => ?_)
      by_cases y : j = m
      · subst y
        exact ⟨ss _, Bool.eq_false_iff.mpr z⟩
      · refine ⟨?_, (g j (by omega)).2⟩
        rw [sA_uA, if_pos rfl, up1_if, if_neg y, U5]
        exact (g j (by omega)).1
end CFx
