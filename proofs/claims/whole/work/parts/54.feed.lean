section F54
variable {sh : List Sh} {S : St} {p : PC} {q : Option Nat} {w : Nat} {X : NS} {f : Nat} {p1 p2 p3 p4 p5 : Int32}
theorem I_leN {a k : Nat} (ha : a < 2147483648) (hk : k < 2147483648) : (I a ≤ I k) = (a ≤ k) := by
  rw [I_le (by omega) (by omega)]
  exact propext ⟨fun h => by omega, fun h => by omega⟩
theorem I_clN {k : Nat} (hk : k < 2147483648) : (I k).toNatClampNeg = k := by rw [I_cl (by omega)]; exact Int.toNat_natCast k
/-- bytes put behind those of a tape: its cell c, its length the int j of the object o -/
def pb (S : St) (c o j m : Nat) (x : Int32) : St := uI (uA S c m x) o j (I ((m + 1 : Nat) : Int))
theorem pb_I {S : St} {c o j m : Nat} {x : Int32} : sI (pb S c o j m x) o j = I ((m + 1 : Nat) : Int) := sI_self _ _ _ _
def pushL (S : St) (c o j m : Nat) : List Int32 → St
  | [] => S
  | x :: L => pushL (pb S c o j m x) c o j (m + 1) L
def pushF (g : Nat → Int32) (m : Nat) : List Int32 → Nat → Int32
  | [] => g
  | x :: L => pushF (up1 g m x) (m + 1) L
theorem pushL_c {S : St} {c o j m : Nat} {x : Int32} {L : List Int32} : pushL S c o j m (x :: L) = pushL (pb S c o j m x) c o j (m + 1) L := rfl
theorem pushL_app {c o j : Nat} : ∀ (L L' : List Int32) (S : St) (m : Nat), pushL S c o j m (L ++ L') = pushL (pushL S c o j m L) c o j (m + L.length) L'
  | [], L', S, m => rfl
  | x :: L, L', S, m => by
    rw [List.cons_append, pushL_c, pushL_c, pushL_app L L' _ (m + 1), List.length_cons, Nat.add_assoc, Nat.add_comm 1]
theorem pushL_R {c o j : Nat} : ∀ (L : List Int32) (S : St) (m : Nat), sR (pushL S c o j m L) = sR S
  | [], S, m => rfl
  | x :: L, S, m => by rw [pushL_c, pushL_R L]; rfl
theorem pushL_J {c o j : Nat} : ∀ (L : List Int32) (S : St) (m : Nat), sJ (pushL S c o j m L) = sJ S
  | [], S, m => rfl
  | x :: L, S, m => by rw [pushL_c, pushL_J L]; rfl
theorem pushL_L {c o j : Nat} : ∀ (L : List Int32) (S : St) (m : Nat), sL (pushL S c o j m L) = sL S
  | [], S, m => rfl
  | x :: L, S, m => by rw [pushL_c, pushL_L L]; rfl
theorem pushL_I {c o j : Nat} : ∀ (L : List Int32) (S : St) (m : Nat), sI S o j = I m → sI (pushL S c o j m L) o j = I ((m + L.length : Nat) : Int)
  | [], S, m, h => h
  | x :: L, S, m, h => by
    rw [pushL_c, pushL_I L (pb S c o j m x) (m + 1) pb_I, List.length_cons]
    congr 2
    omega
theorem pushL_In {c o j a b : Nat} (h : ¬ (a = o ∧ b = j)) : ∀ (L : List Int32) (S : St) (m : Nat), sI (pushL S c o j m L) a b = sI S a b
  | [], S, m => rfl
  | x :: L, S, m => by
    rw [pushL_c, pushL_In h L, pb, sI_uI]
    by_cases h1 : a = o
    · rw [if_pos h1, if_neg (fun h2 => h ⟨h1, h2⟩)]; rfl
    · rw [if_neg h1]; rfl
theorem pushL_A {c o j : Nat} : ∀ (L : List Int32) (S : St) (m : Nat), sA (pushL S c o j m L) c = pushF (sA S c) m L
  | [], S, m => rfl
  | x :: L, S, m => by
    rw [pushL_c, pushL_A L, pushF]
    congr 1
    exact up1_self _ _ _
theorem pushL_An {c o j a : Nat} (h : a ≠ c) : ∀ (L : List Int32) (S : St) (m : Nat), sA (pushL S c o j m L) a = sA S a
  | [], S, m => rfl
  | x :: L, S, m => by rw [pushL_c, pushL_An h L]; exact sA_row _ _ _ h
theorem pushL_sm {c o j k : Nat} (hc : k ≠ c) (ho : k ≠ o) (L : List Int32) (S : St) (m : Nat) : Sm S (pushL S c o j m L) k := by
  refine ⟨pushL_An hc L S m, congrFun (pushL_L L S m) k, ?_, congrFun (pushL_J L S m) k, congrFun (pushL_R L S m) k⟩
  funext b
  exact pushL_In (fun h => ho h.1) L S m
def byt (v : Int32) (s : Int) : Int32 := vp_nar .byte ((v >>> (I s &&& 31)).toInt8.toInt32)
theorem byt_bd {v : Int32} {s : Int} : -128 ≤ (byt v s).toInt ∧ (byt v s).toInt ≤ 127 := by
  have e : ∀ y : Int32, (vp_nar .byte y).toInt = y.toInt8.toInt := fun y => by
    show (y.toInt8.toInt32).toInt = _
    exact Int8.toInt_toInt32 _
  unfold byt
  rw [e]
  have a := Int8.le_toInt ((v >>> (I s &&& 31)).toInt8.toInt32).toInt8
  have b := Int8.toInt_lt ((v >>> (I s &&& 31)).toInt8.toInt32).toInt8
  omega
theorem pushF_bd : ∀ (L : List Int32) (g : Nat → Int32) (m : Nat), (∀ x, x ∈ L → -128 ≤ x.toInt ∧ x.toInt ≤ 127) → (∀ i, -128 ≤ (g i).toInt ∧ (g i).toInt ≤ 127) → ∀ i, -128 ≤ (pushF g m L i).toInt ∧ (pushF g m L i).toInt ≤ 127
  | [], g, m, _, h => h
  | x :: L, g, m, hL, h => by
    rw [pushF]
    refine pushF_bd L _ _ (fun y hy => hL y (List.mem_cons_of_mem _ hy)) (fun i => ?_)
    rw [up1_if]
    by_cases c : i = m
    · rw [if_pos c]; exact hL x List.mem_cons_self
    · rw [if_neg c]; exact h i
def byts (v : Int32) : List Int32 := [byt v 24, byt v 16, byt v 8, byt v 0]
theorem put_step {n m s : Nat} {v : Int32} (hs : s ≤ 24) (hm : m < 400) (e : sI S 1 1 = I m) : F_X6_put_L3 sh f 1 v (n + 1) S (I s) = F_X6_put_L3 sh f 1 v n (pb S 2 1 1 m (byt v s)) (I ((s : Int) - 8)) := by
  have c1 : ¬ I s < 0 := by
    rw [show (0 : Int32) = I 0 from rfl, I_lt (by omega) (by omega)]; omega
  have c2 : ¬ (400 : Int32) ≤ sI S 1 1 := by
    rw [e, show (400 : Int32) = I 400 from rfl, I_le (by omega) (by omega)]; omega
  have c3 : ¬ (sI S 1 1 < 0 ∨ 400 ≤ (sI S 1 1).toNatClampNeg) := by
    rw [e, I_clN (by omega), show (0 : Int32) = I 0 from rfl, I_lt (by omega) (by omega)]; omega
  rw [F_X6_put_L3, if_neg c1, if_neg c2, if_neg c3]
  show F_X6_put_L3 sh f 1 v n (uI (uA S 2 (sI S 1 1).toNatClampNeg (byt v s)) 1 1 (sI S 1 1 + 1)) (I s + -8) = _
  rw [e, I_clN (by omega), show (1 : Int32) = I 1 from rfl, show (-8 : Int32) = I (-8) from rfl, I_add, I_add]
  rfl
theorem put_end {n : Nat} {v : Int32} : F_X6_put_L3 sh f 1 v (n + 1) S (I (-8)) = some S := by
  rw [F_X6_put_L3, if_pos (by decide)]
theorem c_put {m : Nat} {v : Int32} (hf : 5 ≤ f) (hm : m + 3 < 400) (e : sI S 1 1 = I m) : F_X6_put sh f S 1 v = some (pushL S 2 1 1 m (byts v)) := by
  obtain ⟨g, rfl⟩ : ∃ g, f = g + 5 := ⟨f - 5, by omega⟩
  show F_X6_put_L3 sh (g + 5) 1 v (g + 4 + 1) S (I ((24 : Nat) : Int)) = _
  rw [put_step (by omega) (by omega) e]
  show F_X6_put_L3 sh (g + 5) 1 v (g + 3 + 1) _ (I ((16 : Nat) : Int)) = _
  rw [put_step (m := m + 1) (by omega) (by omega) pb_I]
  show F_X6_put_L3 sh (g + 5) 1 v (g + 2 + 1) _ (I ((8 : Nat) : Int)) = _
  rw [put_step (m := m + 1 + 1) (by omega) (by omega) pb_I]
  show F_X6_put_L3 sh (g + 5) 1 v (g + 1 + 1) _ (I ((0 : Nat) : Int)) = _
  rw [put_step (m := m + 1 + 1 + 1) (by omega) (by omega) pb_I]
  show F_X6_put_L3 sh (g + 5) 1 v (g + 1) _ (I (-8)) = _
  rw [put_end]
  rfl
def fdL (p1 p2 p3 p4 p5 : Int32) : List Int32 := byts p1 ++ byts p2 ++ byts p3 ++ byts p4 ++ byts p5
theorem fdL_bd : ∀ x, x ∈ fdL p1 p2 p3 p4 p5 → -128 ≤ x.toInt ∧ x.toInt ≤ 127 := by
  have b : ∀ v x, x ∈ byts v → -128 ≤ x.toInt ∧ x.toInt ≤ 127 := by
    intro v x hx
    simp only [byts, List.mem_cons, List.not_mem_nil, or_false] at hx
    rcases hx with rfl | rfl | rfl | rfl <;> exact byt_bd
  intro x hx
  simp only [fdL, List.mem_append] at hx
  rcases hx with (((hx | hx) | hx) | hx) | hx <;> exact b _ x hx
theorem c_feed {m : Nat} (hf : 5 ≤ f) (hm : m ≤ 380) (e : sI S 1 1 = I m) : F_X8_feed sh f S 0 p1 p2 p3 p4 p5 = some (I ((m + 20 : Nat) : Int), pushL S 2 1 1 m (fdL p1 p2 p3 p4 p5)) := by
  have c : sI S 1 1 ≤ 380 := by rw [e, show (380 : Int32) = I 380 from rfl, I_le (by omega) (by omega)]; omega
  have e1 := pushL_I (c := 2) (byts p1) S m e
  have e2 := pushL_I (c := 2) (byts p2) _ _ e1
  have e3 := pushL_I (c := 2) (byts p3) _ _ e2
  have e4 := pushL_I (c := 2) (byts p4) _ _ e3
  have e5 := pushL_I (c := 2) (byts p5) _ _ e4
  have l : ∀ v, (byts v).length = 4 := fun _ => rfl
  simp only [l] at e1 e2 e3 e4 e5
  have T : fdL p1 p2 p3 p4 p5 = byts p1 ++ byts p2 ++ byts p3 ++ byts p4 ++ byts p5 := rfl
  simp only [F_X8_feed, Nat.zero_add, F_X6_take, if_pos c]
  rw [c_put hf (by omega) e, Option.bind_some, c_put hf (by omega) e1, Option.bind_some, c_put hf (by omega) e2, Option.bind_some, c_put hf (by omega) e3, Option.bind_some, c_put hf (by omega) e4, Option.bind_some, Option.bind_some, e5, T]
  rw [pushL_app, pushL_app, pushL_app, pushL_app]
  simp only [List.length_append, l]
def fdV (p1 p2 p3 p4 p5 : Int32) (k : Nat) : Int32 := if 4 ≤ k then if 8 ≤ k then if 12 ≤ k then if 16 ≤ k then p5 else p4 else p3 else p2 else p1
theorem fd_drop {k : Nat} (hk : k < 20) : (fdL p1 p2 p3 p4 p5).drop k = byt (fdV p1 p2 p3 p4 p5 k) (24 - 8 * ((k % 4 : Nat) : Int)) :: (fdL p1 p2 p3 p4 p5).drop (k + 1) := by
  have h : k = 0 ∨ k = 1 ∨ k = 2 ∨ k = 3 ∨ k = 4 ∨ k = 5 ∨ k = 6 ∨ k = 7 ∨ k = 8 ∨ k = 9 ∨ k = 10 ∨ k = 11 ∨ k = 12 ∨ k = 13 ∨ k = 14 ∨ k = 15 ∨ k = 16 ∨ k = 17 ∨ k = 18 ∨ k = 19 := by omega
  rcases h with rfl | rfl | rfl | rfl | rfl | rfl | rfl | rfl | rfl | rfl | rfl | rfl | rfl | rfl | rfl | rfl | rfl | rfl | rfl | rfl <;> rfl
theorem fd_step {n k m : Nat} (hk : k < 20) (hm : m < 400) (e : sI S 94 9 = I m) : F_X12_feed_L23 sh f 94 p1 p2 p3 p4 p5 (n + 1) S (I k) = F_X12_feed_L23 sh f 94 p1 p2 p3 p4 p5 n (pb S 107 94 9 m (byt (fdV p1 p2 p3 p4 p5 k) (24 - 8 * ((k % 4 : Nat) : Int)))) (I ((k + 1 : Nat) : Int)) := by
  have c20 : ¬ (20 : Int32) ≤ I k := by rw [show (20 : Int32) = I ((20 : Nat) : Int) from rfl, I_leN (by omega) (by omega)]; omega
  have q4 : ((4 : Int32) ≤ I k) = (4 ≤ k) := I_leN (a := 4) (by omega) (by omega)
  have q8 : ((8 : Int32) ≤ I k) = (8 ≤ k) := I_leN (a := 8) (by omega) (by omega)
  have q12 : ((12 : Int32) ≤ I k) = (12 ≤ k) := I_leN (a := 12) (by omega) (by omega)
  have q16 : ((16 : Int32) ≤ I k) = (16 ≤ k) := I_leN (a := 16) (by omega) (by omega)
  have key : ∀ v, F_X12_feed_L76 sh f 94 p1 p2 p3 p4 p5 (F_X12_feed_L23 sh f 94 p1 p2 p3 p4 p5 n) S (I k) v = F_X12_feed_L23 sh f 94 p1 p2 p3 p4 p5 n (pb S 107 94 9 m (byt v (24 - 8 * ((k % 4 : Nat) : Int)))) (I ((k + 1 : Nat) : Int)) := by
    intro v
    have g : ¬ (sI S 94 9 < 0 ∨ 400 ≤ (sI S 94 9).toNatClampNeg) := by
      rw [e, I_clN (by omega), show (0 : Int32) = I 0 from rfl, I_lt (by omega) (by omega)]; omega
    have s' : (24 : Int32) - 8 * (I k - I k / 4 * 4) = I (24 - 8 * ((k % 4 : Nat) : Int)) := by
      rw [show (24 : Int32) = I 24 from rfl, show (8 : Int32) = I 8 from rfl, show (4 : Int32) = I 4 from rfl, I_div (by omega) (by omega), I_mul, I_sub, I_mul, I_sub]
      congr 1
      omega
    rw [F_X12_feed_L76, if_neg g, s']
    show F_X12_feed_L23 sh f 94 p1 p2 p3 p4 p5 n (uI (uA S 107 (sI S 94 9).toNatClampNeg (byt v (24 - 8 * ((k % 4 : Nat) : Int)))) 94 9 (sI S 94 9 + 1)) (I k + 1) = _
    rw [e, I_clN (by omega), show (1 : Int32) = I 1 from rfl, I_add, I_add]
    rfl
  rw [F_X12_feed_L23, if_neg c20]
  simp only [q4, q8, q12, q16, key, fdV]
  repeat' (first | rfl | split)
theorem fd_all {n k m : Nat} (hk : k ≤ 20) (hn : 20 < n + k) (hm : m + (20 - k) ≤ 400) (e : sI S 94 9 = I m) : F_X12_feed_L23 sh f 94 p1 p2 p3 p4 p5 n S (I k) = some (I ((m + (20 - k) : Nat) : Int), pushL S 107 94 9 m ((fdL p1 p2 p3 p4 p5).drop k)) := by
  induction n generalizing k m S with
  | zero => omega
  | succ n ih =>
    by_cases c : k = 20
    · subst c
      rw [F_X12_feed_L23, if_pos (by decide), e]
      rfl
    · rw [fd_step (by omega) (by omega) e, ih (k := k + 1) (m := m + 1) (by omega) (by omega) (by omega) pb_I, fd_drop (k := k) (by omega), show m + 1 + (20 - (k + 1)) = m + (20 - k) by omega]
      rfl
/-- the tape longer by 20 -/
def tpX (X : NS) (m : Nat) : NS := (m, X.2)
theorem fdL_len : (fdL p1 p2 p3 p4 p5).length = 20 := rfl
theorem feed_inv {S2 : St} (h : inv0 sh S p q w X) (c : X.1 ≤ 380) (n1 : sI S2 1 1 = I ((X.1 + 20 : Nat) : Int)) (b1 : sI S2 94 9 = I ((X.1 + 20 : Nat) : Int)) (n2 : sA S2 2 = sA S2 107 ∧ ∀ i, -128 ≤ (sA S2 2 i).toInt ∧ (sA S2 2 i).toInt ≤ 127) (eR : sR S2 = sR S) (eJ : sJ S2 = sJ S) (eL : sL S2 = sL S) (eI : ∀ a b, ¬ (a = 1 ∧ b = 1) → ¬ (a = 94 ∧ b = 9) → ¬ (a = 94 ∧ b = 0) → sI S2 a b = sI S a b) (eA : ∀ a, a ≠ 2 → a ≠ 107 → sA S2 a = sA S a) (sm : ∀ k, k ≠ 1 → k ≠ 2 → k ≠ 94 → k ≠ 107 → Sm S S2 k) : inv0 sh S2 p q w (tpX X (X.1 + 20)) := by
  obtain ⟨h1, h2, ⟨d1, d2, d3⟩, h4, ⟨t1, t2, t3, t4⟩, ⟨r1, r2, r3, r4⟩, ⟨h7, h8, h9, h10⟩, ⟨e1, e2, e3, e4, e5⟩, h12, h13, ⟨l1, l2⟩⟩ := h
  refine ⟨h1, ?_, ⟨d1, d2, d3⟩, ?_, ⟨?_, n1, b1, n2⟩, ⟨?_, ?_, ?_, ?_⟩, ⟨h7, bkC_sm h8 (fun k a b => sm k (by omega) (by omega) (by omega) (by omega)), h9, fun z hz => ⟨(h10 z hz).1, bkR_sm (h10 z hz).2 (fun k a b => ?_)⟩⟩, ⟨e1, ?_, ?_, e4, fun i hi => ?_⟩, fun i hi => ?_, ?_, ⟨?_, ?_⟩⟩
  · unfold ptC; rw [eR]; exact h2
  · unfold ptR; rw [eR]; exact h4
  · show X.1 + 20 ≤ 400; omega
  · rw [eI 94 3 (by omega) (by omega) (by omega), eI 1 8 (by omega) (by omega) (by omega)]; exact r1
  · rw [eI 94 1 (by omega) (by omega) (by omega), eI 0 16 (by omega) (by omega) (by omega)]; exact r2
  · rw [eI 94 2 (by omega) (by omega) (by omega), eI 0 16 (by omega) (by omega) (by omega), eI 1 9 (by omega) (by omega) (by omega)]; exact r3
  · rw [eI 94 4 (by omega) (by omega) (by omega), eI 0 16 (by omega) (by omega) (by omega), eI 0 17 (by omega) (by omega) (by omega)]; exact r4
  · have := (h4.2.2.2.2 z hz).2.1
    exact sm k (by omega) (by omega) (by omega) (by omega)
  · rw [eI 44 2 (by omega) (by omega) (by omega)]; exact e2
  · rw [eI 94 17 (by omega) (by omega) (by omega)]; exact e3
  · rw [eA 45 (by omega) (by omega), eA 46 (by omega) (by omega), eA 108 (by omega) (by omega), eA 109 (by omega) (by omega)]; exact e5 i hi
  · rw [eA 59 (by omega) (by omega), eA 110 (by omega) (by omega)]; exact h12 i hi
  · unfold anR; rw [eJ, eL, eI 0 15 (by omega) (by omega) (by omega), eA 156 (by omega) (by omega)]; exact h13
  · rw [eI 94 18 (by omega) (by omega) (by omega), eI 0 14 (by omega) (by omega) (by omega)]; exact l1
  · rw [eI 0 14 (by omega) (by omega) (by omega)]; exact l2
theorem feed_c {L : List Int32} (h : inv0 sh S p q w X) (c : X.1 ≤ 380) (len : L.length = 20) (hL : ∀ x, x ∈ L → -128 ≤ x.toInt ∧ x.toInt ≤ 127) : inv0 sh (pushL (uI (pushL S 2 1 1 X.1 L) 94 0 0) 107 94 9 X.1 L) p q w (tpX X (X.1 + 20)) ∧ sI (uI (pushL S 2 1 1 X.1 L) 94 0 0) 94 9 = I X.1 ∧ ∀ k, k ≠ 1 → k ≠ 2 → k ≠ 94 → k ≠ 107 → Sm S (pushL (uI (pushL S 2 1 1 X.1 L) 94 0 0) 107 94 9 X.1 L) k := by
  obtain ⟨h1, h2, ⟨d1, d2, d3⟩, h4, ⟨t1, t2, t3, t4⟩, ⟨r1, r2, r3, r4⟩, ⟨h7, h8, h9, h10⟩, ⟨e1, e2, e3, e4, e5⟩, h12, h13, ⟨l1, l2⟩⟩ := h
  have a1 := pushL_I (c := 2) L S X.1 t2
  have a2 : ∀ a b, ¬ (a = 1 ∧ b = 1) → sI (pushL S 2 1 1 X.1 L) a b = sI S a b := fun a b g => pushL_In g _ S X.1
  have a3 := pushL_A (c := 2) (o := 1) (j := 1) L S X.1
  have a4 : ∀ a, a ≠ 2 → sA (pushL S 2 1 1 X.1 L) a = sA S a := fun a g => pushL_An g _ S X.1
  have a5 := pushL_R (c := 2) (o := 1) (j := 1) L S X.1
  have a6 := pushL_J (c := 2) (o := 1) (j := 1) L S X.1
  have a7 := pushL_L (c := 2) (o := 1) (j := 1) L S X.1
  have a8 : ∀ k, k ≠ 2 → k ≠ 1 → Sm S (pushL S 2 1 1 X.1 L) k := fun k g g' => pushL_sm g g' _ S X.1
  rw [len] at a1
  generalize hS1 : pushL S 2 1 1 X.1 L = S1 at a1 a2 a3 a4 a5 a6 a7 a8
  have b0 : sI (uI S1 94 0 0) 94 9 = I X.1 := (a2 94 9 (by omega)).trans t3
  have b1 := pushL_I (c := 107) L (uI S1 94 0 0) X.1 b0
  have b2 : ∀ a b, ¬ (a = 94 ∧ b = 9) → sI (pushL (uI S1 94 0 0) 107 94 9 X.1 L) a b = sI (uI S1 94 0 0) a b := fun a b g => pushL_In g _ _ X.1
  have b3 := pushL_A (c := 107) (o := 94) (j := 9) L (uI S1 94 0 0) X.1
  have b4 : ∀ a, a ≠ 107 → sA (pushL (uI S1 94 0 0) 107 94 9 X.1 L) a = sA S1 a := fun a g => pushL_An g _ _ X.1
  have b5 := pushL_R (c := 107) (o := 94) (j := 9) L (uI S1 94 0 0) X.1
  have b6 := pushL_J (c := 107) (o := 94) (j := 9) L (uI S1 94 0 0) X.1
  have b7 := pushL_L (c := 107) (o := 94) (j := 9) L (uI S1 94 0 0) X.1
  have b8 : ∀ k, k ≠ 107 → k ≠ 94 → Sm S1 (pushL (uI S1 94 0 0) 107 94 9 X.1 L) k := fun k g g' => Sm.trans (uI_o g') (pushL_sm g g' _ _ X.1)
  rw [len] at b1
  generalize hS2 : pushL (uI S1 94 0 0) 107 94 9 X.1 L = S2 at b1 b2 b3 b4 b5 b6 b7 b8
  have sm : ∀ k, k ≠ 1 → k ≠ 2 → k ≠ 94 → k ≠ 107 → Sm S S2 k := fun k k1 k2 k3 k4 => (a8 k k2 k1).trans (b8 k k4 k3)
  have eR : sR S2 = sR S := b5.trans a5
  have eJ : sJ S2 = sJ S := b6.trans a6
  have eL : sL S2 = sL S := b7.trans a7
  have eI : ∀ a b, ¬ (a = 1 ∧ b = 1) → ¬ (a = 94 ∧ b = 9) → ¬ (a = 94 ∧ b = 0) → sI S2 a b = sI S a b := by
    intro a b g1 g2 g3
    rw [b2 a b g2, sI_uI]
    by_cases ha : a = 94
    · rw [if_pos ha, if_neg (fun hb => g3 ⟨ha, hb⟩)]; exact a2 a b g1
    · rw [if_neg ha]; exact a2 a b g1
  have eA : ∀ a, a ≠ 2 → a ≠ 107 → sA S2 a = sA S a := fun a g1 g2 => (b4 a g2).trans (a4 a g1)
  exact ⟨feed_inv ⟨h1, h2, ⟨d1, d2, d3⟩, h4, ⟨t1, t2, t3, t4⟩, ⟨r1, r2, r3, r4⟩, ⟨h7, h8, h9, h10⟩, ⟨e1, e2, e3, e4, e5⟩, h12, h13, ⟨l1, l2⟩⟩ c ((b2 1 1 (by omega)).trans a1) b1 ⟨by rw [b4 2 (by omega), a3, b3]; exact congrArg (fun z => pushF z X.1 L) (t4.1.trans (a4 107 (by omega)).symm), fun i => by rw [b4 2 (by omega), a3]; exact pushF_bd L _ _ hL t4.2 i⟩ eR eJ eL eI eA sm, b0, sm⟩
set_option maxRecDepth 10000 in
theorem st_feed (h : inv0 sh S p q w X) (hf : 100 ≤ f) : ∃ v S1 S2 X', F_X8_feed sh f S 0 p1 p2 p3 p4 p5 = some (v, S1) ∧ F_X12_feed sh f S1 94 p1 p2 p3 p4 p5 = some (v, S2) ∧ inv0 sh S2 p q w X' ∧ X'.2 = X.2 ∧ ∀ k, k ≠ 1 → k ≠ 2 → k ≠ 94 → k ≠ 107 → Sm S S2 k := by
  obtain ⟨h1, h2, ⟨d1, d2, d3⟩, h4, ⟨t1, t2, t3, t4⟩, ⟨r1, r2, r3, r4⟩, ⟨h7, h8, h9, h10⟩, ⟨e1, e2, e3, e4, e5⟩, h12, h13, ⟨l1, l2⟩⟩ := h
  by_cases c : X.1 ≤ 380
  · obtain ⟨k1, k2, k3⟩ := feed_c (L := fdL p1 p2 p3 p4 p5) ⟨h1, h2, ⟨d1, d2, d3⟩, h4, ⟨t1, t2, t3, t4⟩, ⟨r1, r2, r3, r4⟩, ⟨h7, h8, h9, h10⟩, ⟨e1, e2, e3, e4, e5⟩, h12, h13, ⟨l1, l2⟩⟩ c fdL_len fdL_bd
    refine ⟨_, _, _, _, c_feed (by omega) c t2, ?_, k1, rfl, k3⟩
    have c2 : sI (uI (pushL S 2 1 1 X.1 (fdL p1 p2 p3 p4 p5)) 94 0 0) 94 9 + 20 ≤ 400 := by
      rw [k2, show (20 : Int32) = I 20 from rfl, show (400 : Int32) = I 400 from rfl, I_add, I_le (by omega) (by omega)]; omega
    simp only [F_X12_feed, bnd, if_pos c2]
    have g := fd_all (sh := sh) (f := f) (p1 := p1) (p2 := p2) (p3 := p3) (p4 := p4) (p5 := p5) (n := f) (k := 0) (m := X.1) (by omega) (by omega) (by omega) k2
    rw [Nat.sub_zero, List.drop_zero] at g
    exact g
  · have c1 : ¬ sI S 1 1 ≤ 380 := by rw [t2, show (380 : Int32) = I 380 from rfl, I_le (by omega) (by omega)]; omega
    have c2 : ¬ sI (uI S 94 0 0) 94 9 + 20 ≤ 400 := by
      rw [show sI (uI S 94 0 0) 94 9 = I X.1 from t3, show (20 : Int32) = I 20 from rfl, show (400 : Int32) = I 400 from rfl, I_add, I_le (by omega) (by omega)]; omega
    refine ⟨-1, S, uI S 94 0 0, X, ?_, ?_, inv0_I ⟨h1, h2, ⟨d1, d2, d3⟩, h4, ⟨t1, t2, t3, t4⟩, ⟨r1, r2, r3, r4⟩, ⟨h7, h8, h9, h10⟩, ⟨e1, e2, e3, e4, e5⟩, h12, h13, ⟨l1, l2⟩⟩ rfl (Or.inl rfl), rfl, fun k _ _ k3 _ => uI_o k3⟩
    · simp only [F_X8_feed, Nat.zero_add, F_X6_take, if_neg c1, Option.bind_some]
    · simp only [F_X12_feed, bnd, if_neg c2]
end F54
