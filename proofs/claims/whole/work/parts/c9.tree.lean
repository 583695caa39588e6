/-! THE REFERENCE walks over its list: trees, poles. -/
section C9x
variable {sh : List Sh} {f : Nat} {S : St} {q : Nat}
/-- the list of a cell, of ends n ek nu and order V -/
def rW (sh : List Sh) (S : St) (p1 q : Nat) (B : Bk) (n : Nat) (ek : Nat → Nat) (nu : Nat → Int) (V : Nat) : Prop := (p1 = 118 ∨ p1 = 125) ∧ sR S 94 5 = some q ∧ ckX9 sh q = true ∧ qOk q ∧ bkR S q B ∧ (1 ≤ V ∧ V ≤ 3) ∧ sI S p1 1 = I V ∧ sI S p1 2 = I n ∧ (∀ x, x < n → sA S (p1 + 1) x = I (ek x) ∧ sA S (p1 + 2) x = I (nu x)) ∧ (dls B n ek V (4 ^ V)).length ≤ 200 ∧ rLs S p1 (dls B n ek V (4 ^ V))
abbrev tF (S S' : St) : Prop := fr [25, 26, 40, 57] [132, 133, 134, 135, 136] S S'
theorem tF_c {S S' : St} (h : tF S S') {x : Nat} (h1 : x ≠ 94) (h2 : x < 132 ∨ 136 < x) : Sm S S' x := h.2.2.2 x h1 (by simp only [List.mem_cons, List.not_mem_nil, or_false]; omega)
theorem rW_fr {S' : St} {p1 : Nat} {B : Bk} {n : Nat} {ek : Nat → Nat} {nu : Nat → Int} {V : Nat} (h : rW sh S p1 q B n ek nu V) (F : tF S S') : rW sh S' p1 q B n ek nu V := by
  obtain ⟨h1, h2, h3, h4, h5, h6, h7, h8, h9, h10, h11, h12, h13⟩ := h
  have c : ∀ x, p1 ≤ x → x ≤ p1 + 6 → Sm S S' x := fun x a b => tF_c F (by omega) (by omega)
  refine ⟨h1, (F.R 5).trans h2, h3, h4, bkR_fr F (by decide) h4 h5, h6, ((c p1 (by omega) (by omega)).I 1).trans h7, ((c p1 (by omega) (by omega)).I 2).trans h8, fun x hx => ⟨((c (p1 + 1) (by omega) (by omega)).A x).trans (h9 x hx).1, ((c (p1 + 2) (by omega) (by omega)).A x).trans (h9 x hx).2⟩, h10, ((c p1 (by omega) (by omega)).I 0).trans h11, ((c p1 (by omega) (by omega)).I 3).trans h12, fun i d hi => ?_⟩
  obtain ⟨r1, r2, r3, r4⟩ := h13 i d hi
  exact ⟨fun p hp => ((c (p1 + 3) (by omega) (by omega)).A _).trans (r1 p hp), ((c (p1 + 6) (by omega) (by omega)).L i).trans r2, ((c (p1 + 5) (by omega) (by omega)).A i).trans r3, ((c (p1 + 4) (by omega) (by omega)).A i).trans r4⟩
/-- an entry of a list -/
theorem rW_at {p1 : Nat} {B : Bk} {n : Nat} {ek : Nat → Nat} {nu : Nat → Int} {V i : Nat} {d : Dw} (h : rW sh S p1 q B n ek nu V) (hi : (dls B n ek V (4 ^ V))[i]? = some d) : i < 200 ∧ yOk d.2.1 ∧ yRw d.2.1 d.2.2 ∧ cn d.2.1 d.2.2 ∧ yB d.2.1 = B ∧ yN d.2.1 = n ∧ yE d.2.1 = ek ∧ yV d.2.1 = V := by
  obtain ⟨cc, a1, a2, a3, a4, a5, a6⟩ := dls_get _ d (List.mem_of_getElem? hi)
  have il := (List.getElem?_eq_some_iff.mp hi).1
  have l := h.2.2.2.2.2.2.2.2.2.1
  rw [← a2] at a3 a4
  obtain ⟨w', o', c'⟩ := (yHg_mem a3).mp a4
  exact ⟨by omega, a3, w', c', by rw [a2]; rfl, by rw [a2]; rfl, by rw [a2]; rfl, by rw [a2]; rfl⟩
theorem r_isTree {p1 : Nat} {B : Bk} {n : Nat} {ek : Nat → Nat} {nu : Nat → Int} {V i : Nat} {d : Dw} (hf : 1000 ≤ f) (h : rW sh S p1 q B n ek nu V) (hi : (dls B n ek V (4 ^ V))[i]? = some d) : ∃ S', F_X12_isTree sh f S 94 p1 (I i) = some (if trB V d = true then 1 else 0, S') ∧ shC sh S' d.2.1 d.2.2 q ∧ tF S S' := by
  obtain ⟨i2, ok, w, c, yb, yn, ye, yv⟩ := rW_at h hi
  obtain ⟨h1, h2, h3, h4, h5, h6, h7, h8, h9, h10, h11, h12, h13⟩ := h
  have L12 := ok.2.2.2.2.2.2.1
  have n6 := ok.2.1
  obtain ⟨r1, r2, r3, r4⟩ := h13 i d hi
  have F0 : tF S (uI S 94 40 (I V)) := fr.rfl.uI _ (by decide)
  obtain ⟨U, u0, u1, u2⟩ := r_shows (sh := sh) (f := f) (S := uI S 94 40 (I V)) (q := q) (p1 := p1) (i := i) hf ok w h2 h3 h4 (by rw [yb]; exact bkR_fr F0 (by decide) h4 h5) (fun x hx => by rw [ye]; exact (h9 x (by omega)).1) (by rw [yv, sI_row _ _ _ (by omega)]; exact h7) (by rw [yn, sI_row _ _ _ (by omega)]; exact h8) (by omega) (by rw [sI_self, yv]) i2 r1 r2
  have inn := r_inners (sh := sh) (f := f) hf ok w c.1 u1
  have FU : tF S U := F0.trans (u2.mono (by decide) (by decide))
  have p1V : sI U p1 1 = I V := ((tF_c FU (by omega) (by omega)).I 1).trans h7
  unfold F_X12_isTree
  rw [bnd_e, h7, u0, Option.bind_some, inn, Option.bind_some, p1V]
  have q1 : (I ((yL d.2.1 / 2 : Nat) - (yN d.2.1 : Int)) = I (V : Int) - 1) = (trB V d = true) := by
    rw [show (1 : Int32) = I 1 from rfl, I_sub, I_eq (by omega) (by omega)]
    unfold trB
    rw [decide_eq_true_iff]
  simp only [q1]
  by_cases t : trB V d = true
  · rw [if_pos t, if_pos t]; exact ⟨U, rfl, u1, FU⟩
  · rw [if_neg t, if_neg t]; exact ⟨U, rfl, u1, FU⟩
/-- the cuts from the leg m on, but for the leg w -/
def lgs (Y : Ly) (ρ : Nat → Nat) (w : Int) : Nat → Nat → List Nat
  | 0, _ => []
  | d + 1, m => if cutB Y ρ m = true ∧ (m : Int) ≠ w then m :: lgs Y ρ w d (m + 1) else lgs Y ρ w d (m + 1)
theorem plF_st (nu : Nat → Int) (Y : Ly) (ρ : Nat → Nat) {P : Int32} (h : P ≠ -1) : ∀ l, plF nu Y ρ P l = P
  | [] => rfl
  | i :: r => by rw [plF, if_neg (fun q => h q.1)]; exact plF_st nu Y ρ h r
theorem r_pl59 {Y : Ly} {ρ : Nat → Nat} {p1 : Nat} {nu : Nat → Int} (hf : 1000 ≤ f) (ok : yOk Y) (w : yRw Y ρ) (c : cn Y ρ) (hn : nuB nu (yN Y)) (h : shC sh S Y ρ q) (hp : p1 ≠ 136) (hp2 : p1 + 2 ≠ 136) (s2 : sI S p1 2 = I (yN Y)) (hk : ∀ e, e < yN Y → sA S (p1 + 2) e = I (nu e)) (a2 a3 : Int32) (k3 : St → Int32 → Option (Int32 × St)) {wi : Int} (hw : -1 ≤ wi ∧ wi < 12) (i : Nat) : ∀ (d m nf : Nat) (T : St), m + d = yL Y → d < nf → (∀ x, x ≠ 136 → Sm S T x) → ∃ S', F_X12_hasPole_L59 sh f 94 p1 a2 a3 k3 nf T (I i) (I wi) (I m) = (if plF nu Y ρ (-1) (lgs Y ρ wi d m) = -1 then k3 S' (I ((i + 1 : Nat) : Int)) else some (1, uI S' 94 57 (plF nu Y ρ (-1) (lgs Y ρ wi d m)))) ∧ ∀ x, x ≠ 136 → Sm S S' x := by
  have L12 := ok.2.2.2.2.2.2.1
  intro d
  induction d with
  | zero =>
    intro m nf T h1 h2 F
    obtain ⟨nf, rfl⟩ : ∃ e, nf = e + 1 := ⟨nf - 1, by omega⟩
    rw [F_X12_hasPole_L59, (shC_sm h F).1.1, if_pos (by rw [I_leN (by omega) (by omega)]; omega), bnd_e, I_suc, lgs, plF]
    exact ⟨T, by rw [if_pos rfl], F⟩
  | succ d ih =>
    intro m nf T h1 h2 F
    obtain ⟨nf, rfl⟩ : ∃ e, nf = e + 1 := ⟨nf - 1, by omega⟩
    have hT := shC_sm h F
    have ml : m < yL Y := by omega
    have mw : (I (m : Int) = I wi) = ((m : Int) = wi) := I_eq (by omega) (by omega)
    rw [F_X12_hasPole_L59, hT.1.1, if_neg (by rw [I_leN (by omega) (by omega)]; omega), lgs]
    simp only [mw]
    by_cases z : (m : Int) = wi
    · rw [if_pos z, if_neg (show ¬ (cutB Y ρ m = true ∧ (m : Int) ≠ wi) from fun x => x.2 z)]
      unfold F_X12_hasPole_L85
      rw [if_pos rfl, bnd_e, I_suc]
      exact ih (m + 1) nf T (by omega) (by omega) F
    · obtain ⟨U, u0, u1, _⟩ := r_sideOf (sh := sh) (f := f) hf ok w c hT ml
      have FU : ∀ x, x ≠ 136 → Sm S U x := fun x hx => (F x hx).trans (u1 x hx)
      rw [if_neg z, u0, Option.bind_some]
      unfold F_X12_hasPole_L85
      by_cases cb : cutB Y ρ m = true
      · have sn := I_sd (ρ := ρ) ok m
        have by' := r_by (sh := sh) (f := f) (S := U) (q := q) (p1 := p1) (i := m) (nu := nu) hf ok w (shC_sm h FU) ml (((FU p1 hp).I 2).trans s2) (fun e he => ((FU (p1 + 2) hp2).A e).trans (hk e he))
        have bI := byI_b (ρ := ρ) ok hn m
        have b0 : (I (byI nu Y ρ m) = 0) = (byI nu Y ρ m = 0) := by
          rw [show (0 : Int32) = I 0 from rfl, I_eq (by omega) (by omega)]
        rw [if_pos cb, if_neg sn, by', Option.bind_some, if_pos (show cutB Y ρ m = true ∧ (m : Int) ≠ wi from ⟨cb, z⟩), plF]
        simp only [b0]
        by_cases y : byI nu Y ρ m = 0
        · rw [if_pos y, if_pos ⟨trivial, y⟩, plF_st nu Y ρ sn, bnd_e]
          exact ⟨U, by rw [if_neg sn], FU⟩
        · rw [if_neg y, if_neg (fun x => y x.2), bnd_e, I_suc]
          exact ih (m + 1) nf U (by omega) (by omega) FU
      · rw [if_neg cb, if_pos rfl, if_neg (show ¬ (cutB Y ρ m = true ∧ (m : Int) ≠ wi) from fun x => cb x.1), bnd_e, I_suc]
        exact ih (m + 1) nf U (by omega) (by omega) FU
end C9x
