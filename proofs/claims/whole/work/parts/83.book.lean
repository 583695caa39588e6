section B83
variable {sh sh' : List Sh} {f : Nat} {S : St} {p : PC} {q : Option Nat} {w v1 : Nat} {X : NS}
theorem bC_sm {U : St} {b d c : Nat} (h0 : c ≠ 0) (h1 : c ≠ 1) (h2 : c ≠ 44) (h3 : c ≠ 59) : Sm U (bC U b d) c := (by repeat' (first | exact Sm.rfl | (refine Sm.uI ?_ (by omega)) | (refine Sm.uA ?_ (by omega)) | (refine Sm.uJ ?_ (by omega)) | (refine Sm.uL ?_ (by omega)) | (refine Sm.uR ?_ (by omega))))
theorem bR1_sm {U : St} {c : Nat} (h0 : c ≠ 94) (h1 : c ≠ 110) : Sm U (bR1 U v1) c := (by repeat' (first | exact Sm.rfl | (refine Sm.uI ?_ (by omega)) | (refine Sm.uA ?_ (by omega)) | (refine Sm.uJ ?_ (by omega)) | (refine Sm.uL ?_ (by omega)) | (refine Sm.uR ?_ (by omega))))
theorem uR94_sm {U : St} {c : Nat} {z : Option Nat} (h0 : c ≠ 94) : Sm U (uR U 94 5 z) c := (by repeat' (first | exact Sm.rfl | (refine Sm.uI ?_ (by omega)) | (refine Sm.uA ?_ (by omega)) | (refine Sm.uJ ?_ (by omega)) | (refine Sm.uL ?_ (by omega)) | (refine Sm.uR ?_ (by omega))))
/-- the numbers after a text without a fault -/
def bkX (B : Bk) : NS := (0, B, 0, fun _ => 0, fun _ => 0, fun _ => 1)
def bkP (p : PC) : PC := (p.2.1, p.1, p.2.2)
theorem book_ok {S1 S' V : St} {e : Nat} {D' : Dr} (h : inv0 sh S p q w X) (f1 : fD S S1 p.2.1) (d1 : dC S1 p.2.1 D' (bK D'.2)) (o : dOk D') (k0 : bK D'.2 ≠ 0) (z8 : sI S1 1 8 = I 0) (f2 : fR (bI (bC S1 p.1 p.2.1) w e) S' w) (d2 : dR S' w D' (bK D'.2)) (hV : ∀ c, c < 159 ∨ (w ≤ c ∧ c ≤ w + 10) → Sm (uR S' 94 5 (some w)) V c) (so : shOk sh') (cw : ckX9 sh' w = true) (c1 : ckX9 sh' v1 = true) (v9 : v1 = 95 ∨ 159 ≤ v1) (dj : w + 11 ≤ v1 ∨ v1 + 11 ≤ w) : inv0 sh' (bR1 V v1) (bkP p) (some w) v1 (bkX D'.2) ∧ sI (bR1 V v1) 0 14 = 0 := by
  obtain ⟨h1, h2, ⟨e1, e2, e3⟩, h4, ⟨t1, t2, t3, t4⟩, h6, h7, h8, h12, h13, h14⟩ := h
  have hw := h4.2.2.2.1
  have tail : ∀ c, c ≠ 94 → c ≠ 110 → c < 159 ∨ (w ≤ c ∧ c ≤ w + 10) → Sm S' (bR1 V v1) c := fun c a b d => ((uR94_sm a).trans (hV c d)).trans (bR1_sm a b)
  have toU : ∀ c, c ≠ 94 → c ≠ 106 → (c < w ∨ w + 10 < c) → c ≠ 110 → c < 159 → Sm (bC S1 p.1 p.2.1) (bR1 V v1) c := fun c a b d g i => ((bI_sm a (by omega)).trans (f2.1 c a b d)).trans (tail c a g (Or.inl i))
  have from1 : ∀ c, c ≠ 94 → c ≠ 106 → (c < w ∨ w + 10 < c) → c ≠ 110 → c < 159 → c ≠ 0 → c ≠ 1 → c ≠ 44 → c ≠ 59 → Sm S1 (bR1 V v1) c := fun c a b d g i x0 x1 x2 x3 => (bC_sm x0 x1 x2 x3).trans (toU c a b d g i)
  have sm : ∀ c, c ≠ 94 → c ≠ 106 → (c < w ∨ w + 10 < c) → c ≠ 110 → c < 159 → c ≠ 0 → c ≠ 1 → c ≠ 44 → c ≠ 59 → (c < p.2.1 ∨ p.2.1 + 9 < c) → Sm S (bR1 V v1) c := fun c a b d g i x0 x1 x2 x3 x4 => (f1.1 c x1 x4).trans (from1 c a b d g i x0 x1 x2 x3)
  have z0 := toU 0 (by omega) (by omega) (by omega) (by omega) (by omega)
  have z1 := toU 1 (by omega) (by omega) (by omega) (by omega) (by omega)
  have z44 := toU 44 (by omega) (by omega) (by omega) (by omega) (by omega)
  have z59 := toU 59 (by omega) (by omega) (by omega) (by omega) (by omega)
  have z13 := sm 13 (by omega) (by omega) (by omega) (by omega) (by omega) (by omega) (by omega) (by omega) (by omega) (by omega)
  have v94 := hV 94 (Or.inl (by omega))
  have v110 := hV 110 (Or.inl (by omega))
  have s94 : ∀ j, sI S1 94 j = sI S 94 j := fun j => (f1.1 94 (by omega) (by omega)).I j
  have b94 : ∀ j, j < 11 ∨ 15 < j → sI V 94 j = sI (bI (bC S1 p.1 p.2.1) w e) 94 j := fun j hj => (v94.I j).trans (f2.2.1 j hj)
  have c94 : ∀ j, sI (bI (bC S1 p.1 p.2.1) w e) 94 j = sI (uI (uI (uI (uI (uI (bC S1 p.1 p.2.1) 94 0 0) 94 10 (I e)) 94 9 0) 94 11 0) 94 3 0) 94 j := fun j => by
    unfold bI
    rw [sI_row _ _ _ (by omega), sI_row _ _ _ (by omega)]
  have j94 : ∀ j, j ≠ 16 → sJ (bR1 V v1) 94 j = sJ S 94 j := fun j hj => (v94.J j).trans ((f2.2.2.1 j hj).trans ((f1.1 94 (by omega) (by omega)).J j))
  have R1 : ∀ j, sR S1 0 j = sR S 0 j := fun j => congrFun (congrFun f1.2.2 0) j
  have q15 : sI (bR1 V v1) 0 15 = sI S 0 15 := (z0.I 15).trans ((f1.1 0 (by omega) (by omega)).I 15)
  have q14 : sI (bR1 V v1) 0 14 = 0 := z0.I 14
  have q16 : sI (bR1 V v1) 0 16 = 0 := z0.I 16
  obtain ⟨⟨k8, o1⟩, o2, o3, o4, o5⟩ := o
  refine ⟨⟨so, ⟨(z0.R 10), (z1.R 10), (z0.R 11).trans ((R1 11).trans h2.2.2.1), (z13.R 2).trans h2.2.2.2.1, (z0.R 12).trans ((R1 12).trans h2.2.2.2.2.1), (z0.R 13).trans ((R1 13).trans h2.2.2.2.2.2)⟩, ⟨?_, e2, e3⟩, ⟨?_, rfl, c1, v9, fun z hz => ?_⟩, ⟨Nat.zero_le _, z1.I 1, ?_, ?_, ?_⟩, ⟨?_, ?_, ?_, ?_⟩, ⟨⟨⟨k8, o1⟩, o2, fun z => absurd z k0, o3⟩, ?_, (fun z => by cases z), (fun z hz => ?_)⟩, ⟨Nat.zero_le _, z44.I 2, ?_, fun z => absurd rfl z, fun i hi => absurd hi (Nat.not_lt_zero _)⟩, fun i hi => ?_, ?_, ⟨?_, Or.inl q14⟩⟩, q14⟩
  · show p.2.1 = 3 ∧ p.1 = 61 ∨ p.2.1 = 61 ∧ p.1 = 3
    omega
  · exact v94.R 5
  · cases hz
    exact ⟨cw, hw, dj⟩
  · exact (b94 9 (by omega)).trans (c94 9)
  · rw [(sm 2 (by omega) (by omega) (by omega) (by omega) (by omega) (by omega) (by omega) (by omega) (by omega) (by omega)).1, (sm 107 (by omega) (by omega) (by omega) (by omega) (by omega) (by omega) (by omega) (by omega) (by omega) (by omega)).1]; exact t4.1
  · intro i; rw [(sm 2 (by omega) (by omega) (by omega) (by omega) (by omega) (by omega) (by omega) (by omega) (by omega) (by omega)).1]; exact t4.2 i
  · exact ((b94 3 (by omega)).trans (c94 3)).trans ((z1.I 8).trans z8).symm
  · exact q16.symm
  · rw [q16, if_neg (by decide)]; rfl
  · rw [q16, if_neg (by decide)]; rfl
  · exact bkC_sm (S := S1) d1.1 (fun c x y => from1 c (by show c ≠ 94; have : p.2.1 ≤ c := x; have : c ≤ p.2.1 + 9 := y; omega) (by have : p.2.1 ≤ c := x; have : c ≤ p.2.1 + 9 := y; omega) (by have : p.2.1 ≤ c := x; have : c ≤ p.2.1 + 9 := y; omega) (by have : p.2.1 ≤ c := x; have : c ≤ p.2.1 + 9 := y; omega) (by have : p.2.1 ≤ c := x; have : c ≤ p.2.1 + 9 := y; omega) (by have : p.2.1 ≤ c := x; have : c ≤ p.2.1 + 9 := y; omega) (by have : p.2.1 ≤ c := x; have : c ≤ p.2.1 + 9 := y; omega) (by have : p.2.1 ≤ c := x; have : c ≤ p.2.1 + 9 := y; omega) (by have : p.2.1 ≤ c := x; have : c ≤ p.2.1 + 9 := y; omega))
  · cases hz
    exact ⟨k0, bkR_sm (S := S') d2.1 (fun c x y => tail c (by omega) (by omega) (Or.inr ⟨x, y⟩))⟩
  · exact rfl
  · have a59 : ∀ i, i < 3 → sA (bR1 V v1) 59 i = I 1 := fun i hi => by
      rw [z59.1]
      have h : i = 0 ∨ i = 1 ∨ i = 2 := by omega
      rcases h with rfl | rfl | rfl <;> rfl
    have a110 : ∀ i, i < 3 → sA (bR1 V v1) 110 i = I 1 := fun i hi => by
      have h : i = 0 ∨ i = 1 ∨ i = 2 := by omega
      rcases h with rfl | rfl | rfl <;> rfl
    exact ⟨(by omega : (-99 : Int) ≤ 1), (by omega : (1 : Int) ≤ 99), a59 i hi, a110 i hi⟩
  · have aa : p.2.2.2.2.1 = 88 ∨ p.2.2.2.2.1 = 91 := by omega
    show anR (bR1 V v1) p.2.2.2.2.1
    unfold anR
    rw [q15, j94 53 (by omega), j94 54 (by omega), (sm 156 (by omega) (by omega) (by omega) (by omega) (by omega) (by omega) (by omega) (by omega) (by omega) (by omega)).1, (sm p.2.2.2.2.1 (by omega) (by omega) (by omega) (by omega) (by omega) (by omega) (by omega) (by omega) (by omega) (by omega)).J 4, (sm p.2.2.2.2.1 (by omega) (by omega) (by omega) (by omega) (by omega) (by omega) (by omega) (by omega) (by omega) (by omega)).J 5, (sm (p.2.2.2.2.1 + 1) (by omega) (by omega) (by omega) (by omega) (by omega) (by omega) (by omega) (by omega) (by omega) (by omega)).2.1]
    exact h13
  · exact q14.symm
end B83
