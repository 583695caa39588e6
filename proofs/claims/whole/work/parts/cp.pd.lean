/-! PARTED: how both end; the reference lists both parts. -/
section CPa
/-- ends as a meeting has them -/
abbrev En : Type := Nat × (Nat → Nat) × (Nat → Int)
noncomputable def eD (B : Bk) (E : En) (v : Nat) : List Dw := dls B E.1 E.2.1 v (4 ^ v)
noncomputable def eP (B : Bk) (E : En) (v : Nat) : Int32 := plL E.2.2 v 0 0 (-1) (eD B E v)
noncomputable def eR (B : Bk) (E : En) (le : Nat → Int) (v k : Nat) : Nat := rsL E.2.2 le v 0 0 k 0 (eD B E v)
noncomputable def eL (B : Bk) (E : En) (v : Nat) : Bool := loL E.2.2 v 0 0 false (eD B E v)
noncomputable def eZ (B : Bk) (E : En) (v k : Nat) : Bool := zL E.2.2 v 0 0 k (eD B E v)
noncomputable def rmD (B : Bk) (N F : En) (o : Nat) : Nat → Nat → Bool
  | 0, _ => true
  | d + 1, v => decide ((eD B N v).length ≤ 200) && decide ((eD B F (o - v)).length ≤ 200) && rmD B N F o d (v + 1)
noncomputable def ppD (B : Bk) (N F : En) (o : Nat) : Nat → Nat → Int32 → Int32
  | 0, _, P => P
  | d + 1, v, P => ppD B N F o d (v + 1) (if P = -1 then (if eP B N v = -1 then eP B F (o - v) else eP B N v) else P)
noncomputable def llD (B : Bk) (N F : En) (o : Nat) : Nat → Nat → Bool → Bool
  | 0, _, b => b
  | d + 1, v, b => llD B N F o d (v + 1) (b || eL B N v || eL B F (o - v))
noncomputable def rrD (B : Bk) (N F : En) (le : Nat → Int) (o k : Nat) : Nat → Nat → Nat → Nat
  | 0, _, a => a
  | d + 1, v, a => rrD B N F le o k d (v + 1) ((a + eR B N le v k * eR B F le (o - v) k) % pQ k)
theorem ppD_st {B : Bk} {N F : En} {o : Nat} {P : Int32} (h : P ≠ -1) : ∀ d v, ppD B N F o d v P = P
  | 0, _ => rfl
  | d + 1, v => by rw [ppD, if_neg h]; exact ppD_st h d (v + 1)
theorem rrD_lt {B : Bk} {N F : En} {le : Nat → Int} {o k : Nat} : ∀ d v a, a < pQ k → rrD B N F le o k d v a < pQ k
  | 0, _, _, h => h
  | d + 1, v, a, _ => by rw [rrD]; exact rrD_lt d (v + 1) _ (Nat.mod_lt _ (by have := pQ_b k; omega))
theorem any_or {α : Type} (p q : α → Bool) : ∀ l : List α, (l.any fun x => p x || q x) = (l.any p || l.any q)
  | [] => rfl
  | a :: l => by
    rw [List.any_cons, List.any_cons, List.any_cons, any_or p q l]
    cases p a <;> cases q a <;> cases l.any p <;> rfl
theorem eL_z (B : Bk) (E : En) (v : Nat) : eL B E v = (List.range 4).any (eZ B E v) := by
  unfold eL
  rw [loL_z, Bool.false_or]
  rfl
end CPa
section CPb
variable {sh : List Sh} {f : Nat} {S T : St} {q : Nat} {B : Bk} {N F : En} {le : Nat → Int}
theorem rW_sm {S' : St} {p1 : Nat} {n : Nat} {ek : Nat → Nat} {nu : Nat → Int} {V : Nat} (h : rW sh S p1 q B n ek nu V) (c : ∀ x, p1 ≤ x → x ≤ p1 + 6 → Sm S S' x) (r : sR S' 94 5 = sR S 94 5) (k : bkR S' q B) : rW sh S' p1 q B n ek nu V := by
  obtain ⟨h1, h2, h3, h4, h5, h6, h7, h8, h9, h10, h11, h12, h13⟩ := h
  refine ⟨h1, r.trans h2, h3, h4, k, h6, ((c p1 (by omega) (by omega)).I 1).trans h7, ((c p1 (by omega) (by omega)).I 2).trans h8, fun x hx => ⟨((c (p1 + 1) (by omega) (by omega)).A x).trans (h9 x hx).1, ((c (p1 + 2) (by omega) (by omega)).A x).trans (h9 x hx).2⟩, h10, ((c p1 (by omega) (by omega)).I 0).trans h11, ((c p1 (by omega) (by omega)).I 3).trans h12, fun i d hi => ?_⟩
  obtain ⟨r1, r2, r3, r4⟩ := h13 i d hi
  exact ⟨fun p hp => ((c (p1 + 3) (by omega) (by omega)).A _).trans (r1 p hp), ((c (p1 + 6) (by omega) (by omega)).L i).trans r2, ((c (p1 + 5) (by omega) (by omega)).A i).trans r3, ((c (p1 + 4) (by omega) (by omega)).A i).trans r4⟩
/-- what is known where the reference begins -/
def rCx (sh : List Sh) (S : St) (q : Nat) (B : Bk) (N F : En) (le : Nat → Int) : Prop := sR S 94 5 = some q ∧ ckX9 sh q = true ∧ qOk q ∧ bkR S q B ∧ bkOk B ∧ (1 ≤ N.1 ∧ N.1 ≤ 6) ∧ (1 ≤ F.1 ∧ F.1 ≤ 6) ∧ (∀ i, i < N.1 → N.2.1 i < bK B) ∧ (∀ i, i < F.1 → F.2.1 i < bK B) ∧ nuB N.2.2 N.1 ∧ nuB F.2.2 F.1 ∧ ∀ l, l < 3 → -99 ≤ le l ∧ le l ≤ 99 ∧ sA S 110 l = I (le l)
def rP (S T : St) (N F : En) : Prop := rN S T ∧ enA T 118 N.1 N.2.1 N.2.2 ∧ enA T 125 F.1 F.2.1 F.2.2
theorem rP_tf {U : St} (h : rP S T N F) (w : fr [25, 26, 40, 57] [132, 133, 134, 135, 136, 155] T U) : rP S U N F := by
  refine ⟨h.1.trans (rN_fr w (by decide) (by decide)), enA_sm h.2.1 (fun x a b => ?_), enA_sm h.2.2 (fun x a b => ?_)⟩
  · exact w.2.2.2 x (by omega) (by simp only [List.mem_cons, List.not_mem_nil, or_false]; omega)
  · exact w.2.2.2 x (by omega) (by simp only [List.mem_cons, List.not_mem_nil, or_false]; omega)
/-- the near part is listed -/
theorem r_fN {v : Nat} (hf : 20000 ≤ f) (c : rCx sh S q B N F le) (h : rP S T N F) (hv : 1 ≤ v ∧ v ≤ 3) : ∃ U, F_X12_fills sh f T 94 (94 + 24) (I v) = some (if (eD B N v).length ≤ 200 then 1 else 0, U) ∧ rP S U N F ∧ Sm T U 155 ∧ ((eD B N v).length ≤ 200 → rW sh U 118 q B N.1 N.2.1 N.2.2 v) := by
  obtain ⟨c1, c2, c3, c4, c5, c6, c7, c8, c9, c10, c11, c12⟩ := c
  obtain ⟨h1, h2, h3⟩ := h
  obtain ⟨U, u0, u1, u2⟩ := r_fl (sh := sh) (f := f) (T := T) (q := q) (p1 := 118) (B := B) (n := N.1) (ek := N.2.1) (nu := N.2.2) (V := v) hf (Or.inl rfl) ((h1.1 5).trans c1) c2 c3 (rN_bk h1 c3 c4) c5 c6 (fun i hi => ⟨c8 i hi, h2.2 i hi⟩) hv h2.1
  refine ⟨U, u0, ⟨h1.trans (rN_wC (Or.inl rfl) u1), ?_, ?_⟩, ?_, u2⟩
  · obtain ⟨_, u1', u3, u4, u5, u6⟩ := r_fills (sh := sh) (f := f) (S := T) (q := q) (p1 := 118) (B := B) (n := N.1) (ek := N.2.1) (V := v) hf ((h1.1 5).trans c1) c2 c3 (rN_bk h1 c3 c4) c5 c6 (fun i hi => ⟨c8 i hi, (h2.2 i hi).1⟩) hv h2.1 (by omega)
    have e := u1'.symm.trans u0
    rw [Option.some.injEq, Prod.mk.injEq] at e
    rw [e.2] at u5
    refine ⟨u5, fun i hi => ⟨?_, ?_⟩⟩
    · rw [u1.A (by omega) (by decide)]; exact (h2.2 i hi).1
    · rw [u1.A (by omega) (by decide)]; exact (h2.2 i hi).2
  · exact enA_sm h3 (fun x a b => u1.2.2.2 x (by omega) (by simp only [List.mem_cons, List.not_mem_nil, or_false]; omega))
  · exact u1.2.2.2 155 (by omega) (by decide)
/-- the far part is listed -/
theorem r_fF {v : Nat} (hf : 20000 ≤ f) (c : rCx sh S q B N F le) (h : rP S T N F) (hv : 1 ≤ v ∧ v ≤ 3) : ∃ U, F_X12_fills sh f T 94 (94 + 31) (I v) = some (if (eD B F v).length ≤ 200 then 1 else 0, U) ∧ rP S U N F ∧ Sm T U 155 ∧ ((eD B F v).length ≤ 200 → rW sh U 125 q B F.1 F.2.1 F.2.2 v) ∧ ∀ V, rW sh T 118 q B N.1 N.2.1 N.2.2 V → rW sh U 118 q B N.1 N.2.1 N.2.2 V := by
  obtain ⟨c1, c2, c3, c4, c5, c6, c7, c8, c9, c10, c11, c12⟩ := c
  obtain ⟨h1, h2, h3⟩ := h
  obtain ⟨U, u0, u1, u2⟩ := r_fl (sh := sh) (f := f) (T := T) (q := q) (p1 := 125) (B := B) (n := F.1) (ek := F.2.1) (nu := F.2.2) (V := v) hf (Or.inr rfl) ((h1.1 5).trans c1) c2 c3 (rN_bk h1 c3 c4) c5 c7 (fun i hi => ⟨c9 i hi, h3.2 i hi⟩) hv h3.1
  have NU := h1.trans (rN_wC (Or.inr rfl) u1)
  refine ⟨U, u0, ⟨NU, ?_, ?_⟩, ?_, u2, fun V r => ?_⟩
  · exact enA_sm h2 (fun x a b => u1.2.2.2 x (by omega) (by simp only [List.mem_cons, List.not_mem_nil, or_false]; omega))
  · obtain ⟨_, u1', u3, u4, u5, u6⟩ := r_fills (sh := sh) (f := f) (S := T) (q := q) (p1 := 125) (B := B) (n := F.1) (ek := F.2.1) (V := v) hf ((h1.1 5).trans c1) c2 c3 (rN_bk h1 c3 c4) c5 c7 (fun i hi => ⟨c9 i hi, (h3.2 i hi).1⟩) hv h3.1 (by omega)
    have e := u1'.symm.trans u0
    rw [Option.some.injEq, Prod.mk.injEq] at e
    rw [e.2] at u5
    refine ⟨u5, fun i hi => ⟨?_, ?_⟩⟩
    · rw [u1.A (by omega) (by decide)]; exact (h3.2 i hi).1
    · rw [u1.A (by omega) (by decide)]; exact (h3.2 i hi).2
  · exact u1.2.2.2 155 (by omega) (by decide)
  · exact rW_sm r (fun x a b => u1.2.2.2 x (by omega) (by simp only [List.mem_cons, List.not_mem_nil, or_false]; omega)) (u1.R 5) (rN_bk NU c3 c4)
end CPb
