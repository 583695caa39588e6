/-! AN ENTRY of the list. -/
section ARa
variable {sh : List Sh} {f : Nat} {S : St} {B : Bk} {n V : Nat} {ek : Nat → Nat} {Y : Ly}
theorem dls_get : ∀ (c : Nat) (d : Dw), d ∈ dls B n ek V c → ∃ cc, (gls B n ek V c)[d.1]? = some cc ∧ d.2.1 = yC B n ek V cc ∧ yOk (yC B n ek V cc) ∧ d.2.2 ∈ yHg (yC B n ek V cc) ∧ yLst (yC B n ek V cc) d.2.2 ∧ cc < c := by
  intro c
  induction c with
  | zero => intro d hd; simp [dls] at hd
  | succ c ih =>
    intro d hd
    rw [dls] at hd
    rw [gls_s]
    have old : d ∈ dls B n ek V c → ∃ cc, ((gls B n ek V c) ++ (if okC B n ek V c = true then [c] else []))[d.1]? = some cc ∧ d.2.1 = yC B n ek V cc ∧ yOk (yC B n ek V cc) ∧ d.2.2 ∈ yHg (yC B n ek V cc) ∧ yLst (yC B n ek V cc) d.2.2 ∧ cc < c + 1 := by
      intro h
      obtain ⟨cc, a, b⟩ := ih d h
      exact ⟨cc, by rw [List.getElem?_append_left (List.getElem?_eq_some_iff.mp a).1]; exact a, b.1, b.2.1, b.2.2.1, b.2.2.2.1, by omega⟩
    by_cases k : okC B n ek V c = true
    · rw [if_pos k, List.mem_append] at hd
      rcases hd with hd | hd
      · exact old hd
      · have ok := (okC_iff B n ek V).mp k
        rw [nwL_hg ok] at hd
        unfold nwL at hd
        rw [List.mem_map] at hd
        obtain ⟨ρ, hρ, rfl⟩ := hd
        obtain ⟨h1, h2⟩ := List.mem_filter.mp hρ
        refine ⟨c, ?_, rfl, ok, h1, (kpr_iff.mp h2).2, by omega⟩
        rw [if_pos k, List.getElem?_append_right (Nat.le_refl _), Nat.sub_self]
        rfl
    · rw [if_neg k] at hd
      exact old hd
theorem gls_len (hV : V ≤ 3) : (gls B n ek V (4 ^ V)).length ≤ 20 := by
  have c64 : ∀ V : Fin 4, (List.range (4 ^ V.val)).countP (asB V.val) ≤ 20 := by decide +kernel
  have a := c64 ⟨V, by omega⟩
  simp only at a
  have m : (List.range (4 ^ V)).countP (okC B n ek V) ≤ (List.range (4 ^ V)).countP (asB V) := List.countP_mono_left (fun x _ h => by
    have ok := (okC_iff B n ek V).mp h
    unfold asB
    rw [List.all_eq_true]
    intro p hp
    have hp := List.mem_range.mp hp
    exact decide_eq_true (ok.2.2.2.2.2.1 p (by show p + 1 < V; omega)))
  unfold gls
  rw [← List.countP_eq_length_filter]
  omega
theorem Hn_b (ok : yOk Y) : ∀ m, m ≤ yL Y → 1 ≤ Hn (yF Y) (List.range m) ∧ Hn (yF Y) (List.range m) ≤ 4 ^ m
  | 0, _ => ⟨Nat.le_refl _, Nat.le_refl _⟩
  | m + 1, h => by
    have ih := Hn_b ok m (by omega)
    rw [Hn_succ, Nat.pow_succ, Nat.mul_comm (4 ^ m)]
    have c : (List.range m).countP (fun j => yF Y j == yF Y m) ≤ 3 := by
      by_cases e : m < yN Y
      · have z : (List.range m).countP (fun j => yF Y j == yF Y m) = 0 := by
          rw [List.countP_eq_zero]
          intro j hj
          have := List.mem_range.mp hj
          rw [f_out (Or.inl (show j < yN Y by omega)), f_out (Or.inl e), beq_iff_eq]
          omega
        omega
      · obtain ⟨a1, a2, a3⟩ := pt_a ok.2.2.2.1 (i := m) (by omega) (by omega)
        have z4 := z34 ok a1
        have l := like_cnt ok a1 (show m - yS Y (yP Y m) < yZ Y (yP Y m) by omega)
        rw [show yS Y (yP Y m) + (m - yS Y (yP Y m)) = m by omega] at l
        rw [l]
        have := List.countP_le_length (p := fun j => bG (yB Y) (yU Y (yP Y m)) j == bG (yB Y) (yU Y (yP Y m)) (m - yS Y (yP Y m))) (l := List.range (m - yS Y (yP Y m)))
        rw [List.length_range] at this
        omega
    exact ⟨Nat.mul_le_mul (by omega : 1 ≤ _) ih.1, Nat.mul_le_mul (by omega) ih.2⟩
theorem yNa_b (ok : yOk Y) : 1 ≤ yNa Y ∧ yNa Y ≤ 100663296 := by
  have L12 := ok.2.2.2.2.2.2.1
  have h := Hn_b ok (yL Y) (Nat.le_refl _)
  have p0 : 0 ∈ yPP Y := (y_Gp ok).2.1
  have p1 : 1 ≤ (yPP Y).length := List.length_pos_of_mem p0
  have p6 : (yPP Y).length ≤ 6 := by
    unfold yPP
    have := List.length_filter_le (kpB Y) (List.range 6)
    rw [List.length_range] at this
    exact this
  have q : 4 ^ yL Y ≤ 4 ^ 12 := Nat.pow_le_pow_right (by omega) L12
  unfold yNa
  refine ⟨Nat.mul_le_mul p1 h.1, ?_⟩
  have := Nat.mul_le_mul p6 (Nat.le_trans h.2 q)
  omega
theorem obal_b {ρ : Nat → Nat} (ok : yOk Y) (w : yRw Y ρ) : 1 ≤ obN Y ρ ∧ obN Y ρ ≤ yNa Y ∧ 1 ≤ alN Y ρ ∧ alN Y ρ ≤ yNa Y := by
  have e := ob_al ok w
  have b := yNa_b ok
  have o1 : 1 ≤ obN Y ρ := by
    apply Classical.byContradiction
    intro h
    have z : obN Y ρ = 0 := by omega
    rw [z, Nat.zero_mul] at e
    omega
  have a1 : 1 ≤ alN Y ρ := by
    apply Classical.byContradiction
    intro h
    have z : alN Y ρ = 0 := by omega
    rw [z, Nat.mul_zero] at e
    omega
  refine ⟨o1, ?_, a1, ?_⟩
  · rw [← e]; exact Nat.le_mul_of_pos_right _ a1
  · rw [← e]; exact Nat.le_mul_of_pos_left _ o1
end ARa
section ARb
variable {sh : List Sh} {f g V i : Nat} {S : St} {X : NS} {d : Dw}
/-- all that is known of an entry -/
def enK (S : St) (g : Nat) (X : NS) (V i : Nat) (d : Dw) (cc : Nat) : Prop := i < 200 ∧ d.1 < 20 ∧ cc < 64 ∧ d.2.1 = yC (xB X) (xN X) (xE X) V cc ∧ yOk d.2.1 ∧ d.2.2 ∈ yHg d.2.1 ∧ yLst d.2.1 d.2.2 ∧ enC S g i d (yL d.2.1) ∧ gpD S g d.1 cc d.2.1 ∧ sI S g 16 = I V ∧ rEn S 111 i d ∧ sA S (g + 12) d.1 = I (hvN d.2.1 d.2.2 (yL d.2.1))
theorem enK_of (h : liV S g X V) (hi : (xD X V)[i]? = some d) : ∃ cc, enK S g X V i d cc := by
  obtain ⟨h1, h2, h3, h4, h5, h6, h7, h8, h9⟩ := h
  have il := (List.getElem?_eq_some_iff.mp hi).1
  have dm := List.mem_of_getElem? hi
  obtain ⟨cc, a1, a2, a3, a4, a5, a6⟩ := dls_get _ d dm
  have gl := gls_len (B := xB X) (n := xN X) (ek := xE X) h1.2
  have dl := (List.getElem?_eq_some_iff.mp a1).1
  obtain ⟨b1, b2, b3, b4⟩ := h4.1 h3
  have c64 : 4 ^ V ≤ 4 ^ 3 := Nat.pow_le_pow_right (by omega) h1.2
  refine ⟨cc, by omega, by omega, by omega, a2, by rw [a2]; exact a3, by rw [a2]; exact a4, by rw [a2]; exact a5, b3 i d hi, ?_, h5.1, h6.2.2 i d hi, b4 d dm⟩
  have := (h5.2.2 d.1 cc a1).1
  rw [← a2] at this
  exact this
theorem c_ways {cc : Nat} (e : enK S g X V i d cc) : F_X3_ways sh f S g (I i) = some (I (obN d.2.1 d.2.2)) := by
  obtain ⟨e1, e2, e3, e4, e5, e6, e7, e8, e9, e10, e11, e12⟩ := e
  have w := ((yHg_mem e5).mp e6).1
  obtain ⟨o1, o2, a1, a2⟩ := obal_b e5 w
  have nb := yNa_b e5
  have nbi : ¬ (I (i : Int) < 0 ∨ 200 ≤ i) := I_bnd e1 (by omega)
  unfold F_X3_ways
  rw [I_clN (by omega), if_neg nbi, e8.2.1, if_neg (by rw [show (0 : Int32) = I ((0 : Nat) : Int) from rfl, I_leN (by omega) (by omega)]; omega), if_neg nbi, e8.2.2.2.1, I_clN (by omega), if_neg (I_bnd e2 (by omega)), if_neg nbi, if_neg (by rw [show (0 : Int32) = I ((0 : Nat) : Int) from rfl, I_eqN (by omega) (by omega)]; omega), e9.2.2.2.1, I_div (by omega) (by omega)]
  congr 2
  have q : yNa d.2.1 / alN d.2.1 d.2.2 = obN d.2.1 d.2.2 := by
    rw [← ob_al e5 w]
    exact Nat.mul_div_cancel _ a1
  rw [← q]
  rfl
theorem c_loops {cc : Nat} (e : enK S g X V i d cc) : F_X3_loops sh f S g (I i) = some (I ((yL d.2.1 / 2 : Nat) - (yN d.2.1 : Int) - V + 1)) := by
  obtain ⟨e1, e2, e3, e4, e5, e6, e7, e8, e9, e10, e11, e12⟩ := e
  have nbi : ¬ (I (i : Int) < 0 ∨ 200 ≤ i) := I_bnd e1 (by omega)
  unfold F_X3_loops
  rw [I_clN (by omega), if_neg nbi, e8.2.2.2.1, I_clN (by omega), if_neg (I_bnd e2 (by omega)), e9.2.2.1, e10, I_sub, show (1 : Int32) = I 1 from rfl, I_add]
/-- the reference shows an entry -/
theorem r_show0 {cc z : Nat} {T : St} (hf : 1000 ≤ f) (h : liV S g X V) (e : enK S g X V i d cc) (k : ∀ x, 111 ≤ x → x ≤ 117 → Sm S T x) (h1 : sR T 94 5 = some z) (h2 : ckX9 sh z = true) (h3 : qOk z) (h4 : bkR T z (xB X)) : ∃ S', F_X12_shows sh f T 94 111 (I i) = some S' ∧ rlC S' d.2.1 ∧ (∀ i, i < yL d.2.1 → sA S' 134 i = I (d.2.2 i)) ∧ fr [25, 26] [132, 133, 134, 135] T S' := by
  obtain ⟨e1, e2, e3, e4, e5, e6, e7, e8, e9, e10, e11, e12⟩ := e
  have yb : yB d.2.1 = xB X := by rw [e4]; rfl
  have yn : yN d.2.1 = xN X := by rw [e4]; rfl
  have ye : yE d.2.1 = xE X := by rw [e4]; rfl
  have yv : yV d.2.1 = V := by rw [e4]; rfl
  have w := ((yHg_mem e5).mp e6).1
  refine r_shows0 (sh := sh) (f := f) (q := z) (p1 := 111) hf e5 w h1 h2 h3 (by rw [yb]; exact h4) (fun x hx => ?_) ?_ ?_ (Or.inl rfl) e1 (fun p hp => ?_) ?_
  · rw [yn] at hx
    rw [ye, (k 112 (by omega) (by omega)).A]
    exact h.2.2.2.2.2.2.2.2 x hx
  · rw [yv, (k 111 (by omega) (by omega)).I]
    exact h.2.2.2.2.2.2.1
  · rw [yn, (k 111 (by omega) (by omega)).I]
    exact h.2.2.2.2.2.2.2.1
  · rw [(k 114 (by omega) (by omega)).A]
    exact e11.1 p hp
  · rw [(k 117 (by omega) (by omega)).L]
    exact e11.2.1
theorem r_show {cc z : Nat} {T : St} (hf : 1000 ≤ f) (h : liV S g X V) (e : enK S g X V i d cc) (k : ∀ x, 111 ≤ x → x ≤ 117 → Sm S T x) (h1 : sR T 94 5 = some z) (h2 : ckX9 sh z = true) (h3 : qOk z) (h4 : bkR T z (xB X)) (h5 : sI T 94 40 = I V) : ∃ S', F_X12_shows sh f T 94 111 (I i) = some S' ∧ shC sh S' d.2.1 d.2.2 z ∧ fr [25, 26] [132, 133, 134, 135] T S' := by
  obtain ⟨e1, e2, e3, e4, e5, e6, e7, e8, e9, e10, e11, e12⟩ := e
  have yb : yB d.2.1 = xB X := by rw [e4]; rfl
  have yn : yN d.2.1 = xN X := by rw [e4]; rfl
  have ye : yE d.2.1 = xE X := by rw [e4]; rfl
  have yv : yV d.2.1 = V := by rw [e4]; rfl
  have w := ((yHg_mem e5).mp e6).1
  refine r_shows (sh := sh) (f := f) (q := z) (p1 := 111) hf e5 w h1 h2 h3 (by rw [yb]; exact h4) (fun x hx => ?_) ?_ ?_ (Or.inl rfl) (by rw [yv]; exact h5) e1 (fun p hp => ?_) ?_
  · rw [yn] at hx
    rw [ye, (k 112 (by omega) (by omega)).A]
    exact h.2.2.2.2.2.2.2.2 x hx
  · rw [yv, (k 111 (by omega) (by omega)).I]
    exact h.2.2.2.2.2.2.1
  · rw [yn, (k 111 (by omega) (by omega)).I]
    exact h.2.2.2.2.2.2.2.1
  · rw [(k 114 (by omega) (by omega)).A]
    exact e11.1 p hp
  · rw [(k 117 (by omega) (by omega)).L]
    exact e11.2.1
end ARb
section ARc
variable {sh : List Sh} {S : St} {p : PC} {q : Option Nat} {w : Nat} {X : NS} {f : Nat}
/-- is there such a drawing: both say the same -/
theorem st_ix (h : inv sh S p q w X) (x : Int32) : (F_X8_isListed sh f S 0 x = some 0 ∧ ∀ T, sI T 94 18 = sI S 94 18 → Sm S T 111 → F_X12_isDrawing sh f T 94 x = some 0) ∨ ∃ V i d, sI S 0 14 = 1 ∧ liV S p.2.2.1 X V ∧ x = I (i : Nat) ∧ (xD X V)[i]? = some d ∧ F_X8_isListed sh f S 0 x = some 1 ∧ ∀ T, sI T 94 18 = sI S 94 18 → Sm S T 111 → F_X12_isDrawing sh f T 94 x = some 1 := by
  have h0 := h.1
  have li := h0.2.2.2.2.2.2.2.2.2.2
  unfold F_X8_isListed F_X12_isDrawing
  rcases li.2 with l | l
  · left
    rw [l, if_pos rfl]
    refine ⟨rfl, fun T t1 t2 => ?_⟩
    rw [t1, li.1, l, if_pos rfl]
  · have l0 : ¬ sI S 0 14 = 0 := by rw [l]; decide
    have l1 : ∀ T, sI T 94 18 = sI S 94 18 → ¬ sI T 94 18 = 0 := fun T t => by rw [t, li.1, l]; decide
    rw [if_neg l0]
    by_cases c : x < 0
    · left
      rw [if_pos c]
      exact ⟨rfl, fun T t1 t2 => by rw [if_neg (l1 T t1), if_pos c]⟩
    · obtain ⟨V, v⟩ := h.2.2 l
      have s17 := (v.2.2.2.1.1 v.2.2.1).2.1
      have m0 := v.2.2.2.2.2.1.1
      have le := v.2.2.1
      rw [if_neg c, h0.2.1.2.2.1, Option.bind_some, if_pos (gp_sh h0).1, s17]
      obtain ⟨y, rfl, hy⟩ := I_ex x
      have y0 : 0 ≤ y := by
        rw [show (0 : Int32) = I 0 from rfl, I_lt hy (by omega)] at c
        omega
      obtain ⟨i, rfl⟩ : ∃ i : Nat, y = (i : Int) := ⟨y.toNat, by omega⟩
      have i31 : i < 2147483648 := by omega
      rw [ite_leN (by omega) i31]
      by_cases c2 : (xD X V).length ≤ i
      · left
        rw [if_pos c2]
        refine ⟨rfl, fun T t1 t2 => ?_⟩
        have e : sI T (94 + 17) 0 = I ((xD X V).length : Nat) := (t2.I 0).trans m0
        rw [if_neg (l1 T t1), if_neg c, e, ite_leN (by omega) i31, if_pos c2]
      · right
        rw [if_neg c2]
        refine ⟨V, i, (xD X V)[i]'(by omega), l, v, rfl, List.getElem?_eq_getElem (by omega), rfl, fun T t1 t2 => ?_⟩
        have e : sI T (94 + 17) 0 = I ((xD X V).length : Nat) := (t2.I 0).trans m0
        rw [if_neg (l1 T t1), if_neg c, e, ite_leN (by omega) i31, if_neg c2]
end ARc
