/-! DRAWINGS. -/
section APa
variable {sh : List Sh} {f : Nat} {S : St} {B : Bk} {n V z : Nat} {ek : Nat → Nat} {en : Nat → Int}
theorem dls_V {c : Nat} : ∀ d, d ∈ dls B n ek V c → yV d.2.1 = V := by
  intro d hd
  rw [dls_fold] at hd
  exact fold_V _ _ (fun d hd => by simp at hd) d hd
theorem evE_01 : evE B ek n = 0 ∨ evE B ek n = 1 := by
  unfold evE
  by_cases c : sumM B ek n = 0 ∧ sumH B ek n % 2 = 0
  · rw [if_pos c]; exact Or.inr rfl
  · rw [if_neg c]; exact Or.inl rfl
theorem r_dr0 (hf : 20000 ≤ f) (ok : bkOk B) (n6 : 2 ≤ n ∧ n ≤ 6) (hV : 1 ≤ V ∧ V ≤ 3) (h17 : sI S 94 17 = I n) (hk : ∀ i, i < n → ek i < bK B ∧ sA S 108 i = I (ek i) ∧ sA S 109 i = I (en i)) (h5 : sR S 94 5 = some z) (ck : ckX9 sh z = true) (hz : qOk z) (kr : bkR S z B) : ∃ v S2, F_X12_drawings sh f S 94 (I V) = some (v, S2) ∧ (∀ x, x ≠ 94 → ¬ (111 ≤ x ∧ x ≤ 124) → ¬ (132 ≤ x ∧ x ≤ 142) → Sm S S2 x) ∧ sJ S2 94 = sJ S 94 ∧ (∀ j, sR S2 94 j = sR S 94 j) ∧ (∀ j, j = 3 ∨ j = 9 ∨ j = 17 → sI S2 94 j = sI S 94 j) ∧ sI S2 94 2 = -1 ∧ sI S2 94 4 = -1 ∧ (evE B ek n = 0 ∧ v = -1 ∧ sI S2 94 1 = 7 ∧ sI S2 94 18 = sI S 94 18 ∧ (∀ x, 111 ≤ x → x ≤ 117 → Sm S S2 x) ∨ evE B ek n ≠ 0 ∧ 200 < (dls B n ek V (4 ^ V)).length ∧ v = -1 ∧ sI S2 94 1 = 3 ∧ sI S2 94 18 = sI S 94 18 ∧ (∀ x, 111 ≤ x → x ≤ 117 → Sm S S2 x) ∨ evE B ek n ≠ 0 ∧ (dls B n ek V (4 ^ V)).length ≤ 200 ∧ v = I ((dls B n ek V (4 ^ V)).length : Nat) ∧ sI S2 94 1 = 0 ∧ sI S2 94 18 = 1 ∧ rLs S2 111 (dls B n ek V (4 ^ V)) ∧ sI S2 111 1 = I V ∧ sI S2 111 2 = I n ∧ ∀ i, i < n → sA S2 112 i = I (ek i)) := by
  have q3 : F_X12_in sh f (uI S 94 0 0) (I V) 1 3 = some 1 := by
    unfold F_X12_in
    rw [if_neg (by rw [show (1 : Int32) = I ((1 : Nat) : Int) from rfl, I_ltN (by omega) (by omega)]; omega), if_neg (by rw [show (3 : Int32) = I ((3 : Nat) : Int) from rfl, I_ltN (by omega) (by omega)]; omega)]
  have hz' := hz
  unfold qOk at hz'
  have s17 : sI (uI S 94 0 0) 94 17 = I n := by rw [sI_ne _ _ _ (by omega)]; exact h17
  obtain ⟨T, t0, t1, t2, t3, t4⟩ := r_copies (sh := sh) (f := f) (S := uI S 94 0 0) (l := 118) (ek := ek) (en := en) (by omega) (Or.inl rfl) n6.2 s17 (fun i hi => (hk i hi).2)
  have kT : ∀ x, x ≠ 94 → x ≠ 118 → x ≠ 119 → x ≠ 120 → Sm S T x := fun x a b c d => (show Sm S (uI S 94 0 0) x from (by repeat' (first | exact Sm.rfl | (refine Sm.uI ?_ (by omega)) | (refine Sm.uA ?_ (by omega)) | (refine Sm.uJ ?_ (by omega)) | (refine Sm.uL ?_ (by omega)) | (refine Sm.uR ?_ (by omega))))).trans (t3 x b c d)
  have T94 : ∀ j, j ≠ 0 → sI T 94 j = sI S 94 j := fun j hj => by rw [(t3 94 (by omega) (by omega) (by omega)).I, sI_ne _ _ _ hj]
  have TJ : sJ T 94 = sJ S 94 := (t3 94 (by omega) (by omega) (by omega)).2.2.2.1
  have TR : ∀ j, sR T 94 j = sR S 94 j := fun j => (t3 94 (by omega) (by omega) (by omega)).R j
  have krT : bkR T z B := bkR_sm kr (fun x a b => kT x (by omega) (by omega) (by omega) (by omega))
  have dr := r_drawn (sh := sh) (f := f) (S := T) (l := 118) (z := z) (ek := ek) (n := n) (by omega) ok ((TR 5).trans h5) ck krT n6.2 t1 (fun i hi => ⟨(hk i hi).1, (t2 i hi).1⟩)
  unfold F_X12_drawings
  simp only [bnd, s17]
  rw [if_neg (by rw [show (0 : Int32) = I ((0 : Nat) : Int) from rfl, I_eqN (by omega) (by omega)]; omega), q3, Option.bind_some, if_neg (by decide), t0, Option.bind_some, dr, Option.bind_some]
  by_cases ev : evE B ek n = 0
  · rw [if_pos ev]
    simp only [F_X12_refused, bnd, Option.bind_some]
    refine ⟨_, _, rfl, fun x a b c => (kT x a (by omega) (by omega) (by omega)).trans (by repeat' (first | exact Sm.rfl | (refine Sm.uI ?_ (by omega)) | (refine Sm.uA ?_ (by omega)) | (refine Sm.uJ ?_ (by omega)) | (refine Sm.uL ?_ (by omega)) | (refine Sm.uR ?_ (by omega)))), TJ, TR, fun j hj => ?_, ?_, sI_self _ _ _ _, Or.inl ⟨ev, rfl, ?_, ?_, fun x a b => (kT x (by omega) (by omega) (by omega) (by omega)).trans (by repeat' (first | exact Sm.rfl | (refine Sm.uI ?_ (by omega)) | (refine Sm.uA ?_ (by omega)) | (refine Sm.uJ ?_ (by omega)) | (refine Sm.uL ?_ (by omega)) | (refine Sm.uR ?_ (by omega))))⟩⟩
    · rw [sI_ne _ _ _ (by omega), sI_ne _ _ _ (by omega), sI_ne _ _ _ (by omega)]
      exact T94 j (by omega)
    · rw [sI_ne _ _ _ (by omega), sI_self]
    · rw [sI_ne _ _ _ (by omega), sI_ne _ _ _ (by omega), sI_self]
    · rw [sI_ne _ _ _ (by omega), sI_ne _ _ _ (by omega), sI_ne _ _ _ (by omega)]
      exact T94 18 (by omega)
  · rw [if_neg ev]
    obtain ⟨U, u0, u1, u2, u3, u4⟩ := r_fills (sh := sh) (f := f) (S := T) (q := z) (p1 := 118) (B := B) (n := n) (ek := ek) (V := V) hf ((TR 5).trans h5) ck hz krT ok (by omega) (fun i hi => ⟨(hk i hi).1, (t2 i hi).1⟩) hV t1 (by omega)
    have u0' : F_X12_fills sh f T 94 (94 + 24) (I V) = _ := u0
    have kU : ∀ x, x ≠ 94 → ¬ (118 ≤ x ∧ x ≤ 124) → ¬ (132 ≤ x ∧ x ≤ 142) → Sm S U x := fun x a b c => (kT x a (by omega) (by omega) (by omega)).trans (u1.2.2.2 x a (by simp only [List.mem_cons, List.not_mem_nil, or_false]; omega))
    have U94 : ∀ j, j ≠ 0 → j ≠ 25 → j ≠ 26 → j ≠ 35 → j ≠ 38 → sI U 94 j = sI S 94 j := fun j a b c d e => (u1.1 j (by simp only [List.mem_cons, List.not_mem_nil, or_false]; omega)).trans (T94 j a)
    have UJ : sJ U 94 = sJ S 94 := u1.2.1.trans TJ
    have UR : ∀ j, sR U 94 j = sR S 94 j := fun j => (u1.R j).trans (TR j)
    rw [u0', Option.bind_some]
    by_cases le : (dls B n ek V (4 ^ V)).length ≤ 200
    · rw [if_pos le, if_neg (show ¬ (1 : Int32) = 0 by decide)]
      have ls := u4 le
      have a1 : sI (uI U (94 + 17) 1 (I V)) (94 + 24) 0 = I ((dls B n ek V (4 ^ V)).length : Nat) := by
        rw [sI_row _ _ _ (by omega)]; exact ls.1
      have a2 : sI (uI (uI U (94 + 17) 1 (I V)) (94 + 17) 0 (I ((dls B n ek V (4 ^ V)).length : Nat))) (94 + 24) 3 = I (osum (dls B n ek V (4 ^ V)) : Nat) := by
        rw [sI_row _ _ _ (by omega), sI_row _ _ _ (by omega)]; exact ls.2.1
      have a3 : sI (uI (uI (uI U (94 + 17) 1 (I V)) (94 + 17) 0 (I ((dls B n ek V (4 ^ V)).length : Nat))) (94 + 17) 3 (I (osum (dls B n ek V (4 ^ V)) : Nat))) 94 17 = I n := by
        rw [sI_row _ _ _ (by omega), sI_row _ _ _ (by omega), sI_row _ _ _ (by omega), U94 17 (by omega) (by omega) (by omega) (by omega) (by omega)]; exact h17
      rw [a1, a2, a3]
      generalize hW : uI (uI (uI (uI U (94 + 17) 1 (I V)) (94 + 17) 0 (I ((dls B n ek V (4 ^ V)).length : Nat))) (94 + 17) 3 (I (osum (dls B n ek V (4 ^ V)) : Nat))) (94 + 17) 2 (I n) = W
      have UW : ∀ x, x ≠ 111 → Sm U W x := by
        intro x hx
        rw [← hW]
        exact (by repeat' (first | exact Sm.rfl | (refine Sm.uI ?_ (by omega)) | (refine Sm.uA ?_ (by omega)) | (refine Sm.uJ ?_ (by omega)) | (refine Sm.uL ?_ (by omega)) | (refine Sm.uR ?_ (by omega))))
      have w1 : sI W 111 1 = I V := by
        rw [← hW, sI_ne _ _ _ (by omega), sI_ne _ _ _ (by omega), sI_ne _ _ _ (by omega), sI_self]
      have w0 : sI W 111 0 = I ((dls B n ek V (4 ^ V)).length : Nat) := by
        rw [← hW, sI_ne _ _ _ (by omega), sI_ne _ _ _ (by omega), sI_self]
      have w3 : sI W 111 3 = I (osum (dls B n ek V (4 ^ V)) : Nat) := by
        rw [← hW, sI_ne _ _ _ (by omega), sI_self]
      have w2 : sI W 111 2 = I n := by
        rw [← hW, sI_self]
      obtain ⟨Q, q0, q1, q2, q3⟩ := r_dr126 (sh := sh) (f := f) (U := W) (x := I V) (m := (dls B n ek V (4 ^ V)).length) (by omega) le (((UW 118 (by omega)).I 0).trans ls.1)
      rw [q0]
      have kQ : ∀ x, x ≠ 94 → ¬ (111 ≤ x ∧ x ≤ 124) → ¬ (132 ≤ x ∧ x ≤ 142) → Sm S Q x := fun x a b c => (kU x a (by omega) (by omega)).trans ((UW x (by omega)).trans (q1 x (by omega) (by omega) (by omega) (by omega) (by omega)))
      have Q94 : Sm U Q 94 := (UW 94 (by omega)).trans (q1 94 (by omega) (by omega) (by omega) (by omega) (by omega))
      have Q111 : Sm W Q 111 := q1 111 (by omega) (by omega) (by omega) (by omega) (by omega)
      refine ⟨_, _, rfl, fun x a b c => (kQ x a b c).trans (by repeat' (first | exact Sm.rfl | (refine Sm.uI ?_ (by omega)) | (refine Sm.uA ?_ (by omega)) | (refine Sm.uJ ?_ (by omega)) | (refine Sm.uL ?_ (by omega)) | (refine Sm.uR ?_ (by omega)))), Q94.2.2.2.1.trans UJ, fun j => (Q94.R j).trans (UR j), fun j hj => ?_, ?_, sI_self _ _ _ _, Or.inr (Or.inr ⟨ev, le, w0, ?_, ?_, ⟨?_, ?_, ?_⟩, ?_, ?_, ?_⟩)⟩
      · rw [sI_ne _ _ _ (by omega), sI_ne _ _ _ (by omega), sI_ne _ _ _ (by omega), sI_ne _ _ _ (by omega), Q94.I]
        exact U94 j (by omega) (by omega) (by omega) (by omega) (by omega)
      · rw [sI_ne _ _ _ (by omega), sI_self]
      · rw [sI_ne _ _ _ (by omega), sI_ne _ _ _ (by omega), sI_self]
      · rw [sI_ne _ _ _ (by omega), sI_ne _ _ _ (by omega), sI_ne _ _ _ (by omega), sI_self]
      · rw [sI_row _ _ _ (by omega), sI_row _ _ _ (by omega), sI_row _ _ _ (by omega), sI_row _ _ _ (by omega), Q111.I]
        exact w0
      · rw [sI_row _ _ _ (by omega), sI_row _ _ _ (by omega), sI_row _ _ _ (by omega), sI_row _ _ _ (by omega), Q111.I]
        exact w3
      · intro i d hd
        have il := (List.getElem?_eq_some_iff.mp hd).1
        obtain ⟨b1, b2, b3, b4⟩ := q2 i il
        obtain ⟨c1, c2, c3, c4⟩ := ls.2.2 i d hd
        have dv := dls_V d (List.mem_of_getElem? hd)
        refine ⟨fun p hp => ?_, ?_, ?_, ?_⟩
        · show sA Q 114 (3 * i + p) = _
          rw [b4 p (by omega), (UW 121 (by omega)).A]
          exact c1 p hp
        · show sL Q 117 i = _
          rw [b1, (UW 124 (by omega)).L]
          exact c2
        · show sA Q 116 i = _
          rw [b3, (UW 123 (by omega)).A]
          exact c3
        · show sA Q 115 i = _
          rw [b2, (UW 122 (by omega)).A]
          exact c4
      · rw [sI_row _ _ _ (by omega), sI_row _ _ _ (by omega), sI_row _ _ _ (by omega), sI_row _ _ _ (by omega), Q111.I]
        exact w1
      · rw [sI_row _ _ _ (by omega), sI_row _ _ _ (by omega), sI_row _ _ _ (by omega), sI_row _ _ _ (by omega), Q111.I]
        exact w2
      · intro i hi
        show sA Q 112 i = _
        rw [q3 i (by omega), (UW 108 (by omega)).A, (kU 108 (by omega) (by omega) (by omega)).A]
        exact (hk i hi).2.1
    · rw [if_neg le, if_pos (show (0 : Int32) = 0 from rfl)]
      simp only [F_X12_refused, bnd, Option.bind_some]
      refine ⟨_, _, rfl, fun x a b c => (kU x a (by omega) (by omega)).trans (by repeat' (first | exact Sm.rfl | (refine Sm.uI ?_ (by omega)) | (refine Sm.uA ?_ (by omega)) | (refine Sm.uJ ?_ (by omega)) | (refine Sm.uL ?_ (by omega)) | (refine Sm.uR ?_ (by omega)))), UJ, UR, fun j hj => ?_, ?_, sI_self _ _ _ _, Or.inr (Or.inl ⟨ev, by omega, rfl, ?_, ?_, fun x a b => (kU x (by omega) (by omega) (by omega)).trans (by repeat' (first | exact Sm.rfl | (refine Sm.uI ?_ (by omega)) | (refine Sm.uA ?_ (by omega)) | (refine Sm.uJ ?_ (by omega)) | (refine Sm.uL ?_ (by omega)) | (refine Sm.uR ?_ (by omega))))⟩)⟩
      · rw [sI_ne _ _ _ (by omega), sI_ne _ _ _ (by omega), sI_ne _ _ _ (by omega)]
        exact U94 j (by omega) (by omega) (by omega) (by omega) (by omega)
      · rw [sI_ne _ _ _ (by omega), sI_self]
      · rw [sI_ne _ _ _ (by omega), sI_ne _ _ _ (by omega), sI_self]
      · rw [sI_ne _ _ _ (by omega), sI_ne _ _ _ (by omega), sI_ne _ _ _ (by omega)]
        exact U94 18 (by omega) (by omega) (by omega) (by omega) (by omega)
end APa
