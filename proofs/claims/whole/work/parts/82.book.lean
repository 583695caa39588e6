section B82
variable {sh : List Sh} {f : Nat} {S : St} {p : PC} {q : Option Nat} {w : Nat} {X : NS}
theorem bI_sm {U : St} {e c : Nat} (h : c ≠ 94) (h' : c ≠ w) : Sm U (bI U w e) c := (by repeat' (first | exact Sm.rfl | (refine Sm.uI ?_ (by omega)) | (refine Sm.uA ?_ (by omega)) | (refine Sm.uJ ?_ (by omega)) | (refine Sm.uL ?_ (by omega)) | (refine Sm.uR ?_ (by omega))))
theorem bX_sm {U : St} {a : Nat × Nat} {c : Nat} (h : c ≠ 94) : Sm U (bX U a) c := (by repeat' (first | exact Sm.rfl | (refine Sm.uI ?_ (by omega)) | (refine Sm.uA ?_ (by omega)) | (refine Sm.uJ ?_ (by omega)) | (refine Sm.uL ?_ (by omega)) | (refine Sm.uR ?_ (by omega))))
theorem book_fail {S1 S' : St} {e : Nat} {a : Nat × Nat} (h : inv0 sh S p q w X) (f1 : fD S S1 p.2.1) (fl : flt S1 a) (f2 : fR (bI (uI (uI S1 1 1 0) 0 16 4) w e) S' w) : inv0 sh (bX S' a) p q w (tpX X 0) ∧ sI (bX S' a) 0 14 = sI S 0 14 ∧ ∀ c, c ≠ 0 → c ≠ 1 → (c < p.2.1 ∨ p.2.1 + 9 < c) → c ≠ 94 → c ≠ 106 → (c < w ∨ w + 10 < c) → Sm S (bX S' a) c := by
  obtain ⟨h1, h2, ⟨d1, d2, d3⟩, h4, ⟨t1, t2, t3, t4⟩, ⟨r1, r2, r3, r4⟩, ⟨h7, h8, h9, h10⟩, ⟨e1, e2, e3, e4, e5⟩, h12, h13, ⟨l1, l2⟩⟩ := h
  have hw := h4.2.2.2.1
  have sm : ∀ c, c ≠ 0 → c ≠ 1 → (c < p.2.1 ∨ p.2.1 + 9 < c) → c ≠ 94 → c ≠ 106 → (c < w ∨ w + 10 < c) → Sm S (bX S' a) c := fun c c0 c1 c2 c3 c4 c5 =>
    ((((f1.1 c c1 c2).trans (show Sm S1 (uI (uI S1 1 1 0) 0 16 4) c from (by repeat' (first | exact Sm.rfl | (refine Sm.uI ?_ (by omega)) | (refine Sm.uA ?_ (by omega)) | (refine Sm.uJ ?_ (by omega)) | (refine Sm.uL ?_ (by omega)) | (refine Sm.uR ?_ (by omega)))))).trans (bI_sm c3 (by omega))).trans (f2.1 c c3 c4 c5)).trans (bX_sm c3)
  have eR : sR (bX S' a) = sR S := f2.2.2.2.trans f1.2.2
  have i0 : ∀ j, sI (bX S' a) 0 j = sI (uI (uI S1 1 1 0) 0 16 4) 0 j := fun j => ((bX_sm (U := S') (a := a) (c := 0) (by omega)).I j).trans (((f2.1 0 (by omega) (by omega) (by omega)).I j).trans ((bI_sm (w := w) (c := 0) (by omega) (by omega)).I j))
  have i1 : ∀ j, sI (bX S' a) 1 j = sI (uI (uI S1 1 1 0) 0 16 4) 1 j := fun j => ((bX_sm (U := S') (a := a) (c := 1) (by omega)).I j).trans (((f2.1 1 (by omega) (by omega) (by omega)).I j).trans ((bI_sm (w := w) (c := 1) (by omega) (by omega)).I j))
  have s0 : ∀ j, sI S1 0 j = sI S 0 j := fun j => (f1.1 0 (by omega) (by omega)).I j
  have b94 : ∀ j, sI (bI (uI (uI S1 1 1 0) 0 16 4) w e) 94 j = sI (uI (uI (uI (uI (uI (uI (uI S1 1 1 0) 0 16 4) 94 0 0) 94 10 (I e)) 94 9 0) 94 11 0) 94 3 0) 94 j := fun j => by
    unfold bI
    rw [sI_row _ _ _ (by omega), sI_row _ _ _ (by omega)]
  have s94 : ∀ j, sI S1 94 j = sI S 94 j := fun j => (f1.1 94 (by omega) (by omega)).I j
  have j94 : ∀ j, j ≠ 16 → sJ (bX S' a) 94 j = sJ S 94 j := fun j hj => (f2.2.2.1 j hj).trans ((f1.1 94 (by omega) (by omega)).J j)
  have q15 : sI (bX S' a) 0 15 = sI S 0 15 := (i0 15).trans (s0 15)
  have q14 : sI (bX S' a) 0 14 = sI S 0 14 := (i0 14).trans (s0 14)
  refine ⟨⟨h1, ?_, ⟨d1, d2, d3⟩, ?_, ⟨Nat.zero_le _, i1 1, ?_, ?_, ?_⟩, ⟨?_, ?_, ?_, ?_⟩, ⟨h7, bkC_sm h8 (fun k x y => sm k (by omega) (by omega) (by omega) (by omega) (by omega) (by omega)), h9, fun z hz => ⟨(h10 z hz).1, bkR_sm (h10 z hz).2 (fun k x y => ?_)⟩⟩, ⟨e1, ?_, ?_, e4, fun i hi => ?_⟩, fun i hi => ?_, ?_, ⟨?_, ?_⟩⟩, q14, sm⟩
  · unfold ptC; rw [eR]; exact h2
  · unfold ptR; rw [eR]; exact h4
  · exact (f2.2.1 9 (by omega)).trans (b94 9)
  · rw [(sm 2 (by omega) (by omega) (by omega) (by omega) (by omega) (by omega)).1, (sm 107 (by omega) (by omega) (by omega) (by omega) (by omega) (by omega)).1]; exact t4.1
  · intro i; rw [(sm 2 (by omega) (by omega) (by omega) (by omega) (by omega) (by omega)).1]; exact t4.2 i
  · exact (show sI (bX S' a) 94 3 = I a.1 from rfl).trans ((i1 8).trans fl.1).symm
  · exact (i0 16).symm
  · rw [show sI (bX S' a) 0 16 = 4 from i0 16, if_pos rfl]; exact ((i1 9).trans fl.2).symm
  · rw [show sI (bX S' a) 0 16 = 4 from i0 16, if_neg (by decide)]; rfl
  · have a1 := (h4.2.2.2.2 z hz).2.1
    have a2 := (h4.2.2.2.2 z hz).2.2
    exact sm k (by omega) (by omega) (by omega) (by omega) (by omega) (by omega)
  · rw [(sm 44 (by omega) (by omega) (by omega) (by omega) (by omega) (by omega)).I 2]; exact e2
  · exact (f2.2.1 17 (by omega)).trans ((b94 17).trans ((s94 17).trans e3))
  · rw [(sm 45 (by omega) (by omega) (by omega) (by omega) (by omega) (by omega)).1, (sm 46 (by omega) (by omega) (by omega) (by omega) (by omega) (by omega)).1, (sm 108 (by omega) (by omega) (by omega) (by omega) (by omega) (by omega)).1, (sm 109 (by omega) (by omega) (by omega) (by omega) (by omega) (by omega)).1]; exact e5 i hi
  · rw [(sm 59 (by omega) (by omega) (by omega) (by omega) (by omega) (by omega)).1, (sm 110 (by omega) (by omega) (by omega) (by omega) (by omega) (by omega)).1]; exact h12 i hi
  · have aa : p.2.2.2.2.1 = 88 ∨ p.2.2.2.2.1 = 91 := by omega
    unfold anR
    rw [q15, j94 53 (by omega), j94 54 (by omega), (sm 156 (by omega) (by omega) (by omega) (by omega) (by omega) (by omega)).1, (sm p.2.2.2.2.1 (by omega) (by omega) (by omega) (by omega) (by omega) (by omega)).J 4, (sm p.2.2.2.2.1 (by omega) (by omega) (by omega) (by omega) (by omega) (by omega)).J 5, (sm (p.2.2.2.2.1 + 1) (by omega) (by omega) (by omega) (by omega) (by omega) (by omega)).2.1]
    exact h13
  · exact ((f2.2.1 18 (by omega)).trans ((b94 18).trans (s94 18))).trans (l1.trans q14.symm)
  · rw [q14]; exact l2
end B82
