/-! GROUPS; FILL. -/
def wrN (Y : Ly) : Nat → Int
  | 0 => 1
  | p + 1 => wrN Y p * bW (yB Y) (yU Y p)
def pwN (Y : Ly) : Nat → Nat
  | 0 => 0
  | p + 1 => pwN Y p + 2 ^ (2 * (2 - bL (yB Y) (yU Y p)))
def gpC (S : St) (g i c : Nat) (Y : Ly) : Prop := sA S (g + 8) i = I c ∧ sA S (g + 9) i = I (yL Y) ∧ sA S (g + 10) i = I ((yL Y / 2 : Nat) - (yN Y : Int)) ∧ sA S (g + 11) i = I (yNa Y) ∧ sA S (g + 13) i = I (wrN Y (yV Y)) ∧ sA S (g + 14) i = I (pwN Y (yV Y)) ∧ sA S (g + 15) i = 0 ∧ sA S (g + 16) i = 0
theorem gpC_cg {S S' : St} {g i c : Nat} {Y : Ly} (h : gpC S g i c Y) (k : ∀ x, 8 ≤ x → x ≤ 16 → x ≠ 12 → sA S' (g + x) i = sA S (g + x) i) : gpC S' g i c Y := by
  obtain ⟨h1, h2, h3, h4, h5, h6, h7, h8⟩ := h
  exact ⟨(k 8 (by omega) (by omega) (by omega)).trans h1, (k 9 (by omega) (by omega) (by omega)).trans h2, (k 10 (by omega) (by omega) (by omega)).trans h3, (k 11 (by omega) (by omega) (by omega)).trans h4, (k 13 (by omega) (by omega) (by omega)).trans h5, (k 14 (by omega) (by omega) (by omega)).trans h6, (k 15 (by omega) (by omega) (by omega)).trans h7, (k 16 (by omega) (by omega) (by omega)).trans h8⟩
section U9u
variable {sh : List Sh} {f : Nat} {S : St} {g b : Nat} {Y : Ly}
theorem c_allLegs {t : Nat} (h : lyC S t Y) (ok : yOk Y) : F_X4_allLegs sh f S t = some (I (mkb (inl (List.range (yL Y))) (yL Y) : Int)) := by
  have L12 := ok.2.2.2.2.2.2.1
  unfold F_X4_allLegs
  rw [h.2.2.1, one_shl (by omega)]
  have e : mkb (inl (List.range (yL Y))) (yL Y) = 2 ^ yL Y - 1 := by
    apply Nat.eq_of_testBit_eq
    intro x
    rw [mkb_tb, Nat.testBit_two_pow_sub_one]
    unfold inl
    by_cases c : x < yL Y
    · rw [decide_eq_true (List.mem_range.mpr c), Bool.and_true]
    · rw [decide_eq_false c, Bool.false_and]
  rw [e, show (1 : Int32) = I 1 from rfl, I_sub]
  congr 2
  have := Nat.two_pow_pos (yL Y)
  omega
theorem c_open {c gi : Nat} (hf : 1000 ≤ f) (h : lyC S 14 Y) (kb : bkC S b (yB Y)) (ok : yOk Y) (hG : g = 23 ∨ g = 71) (h16 : sI S g 16 = I (yV Y)) (h18 : sI S g 18 = I gi) (hgi : gi < 20) : ∃ S', F_X3_openGroup sh f S g b 14 (I c) = some (1, S') ∧ sI S' g 18 = I ((gi + 1 : Nat) : Int) ∧ (∀ j, j ≠ 18 → sI S' g j = sI S g j) ∧ gpC S' g gi c Y ∧ sA S' (g + 12) gi = I 1 ∧ (∀ i, i ≠ gi → ∀ x, 8 ≤ x → x ≤ 16 → sA S' (g + x) i = sA S (g + x) i) ∧ ∀ x, x < g ∨ g < x ∧ x < g + 8 ∨ g + 16 < x → Sm S S' x := by
  have v := ok.2.2.2.1
  have L12 := ok.2.2.2.2.2.2.1
  have nl := N_le ok
  have gcl : (I (gi : Int)).toNatClampNeg = gi := I_clN (by omega)
  have en : ∀ (l4 l5 : Int32), l4 = I (wrN Y (yV Y)) → l5 = I (pwN Y (yV Y)) → ∃ S', F_X3_openGroup_L80 sh f g b 14 (I c) S l4 l5 = some (1, S') ∧ sI S' g 18 = I ((gi + 1 : Nat) : Int) ∧ (∀ j, j ≠ 18 → sI S' g j = sI S g j) ∧ gpC S' g gi c Y ∧ sA S' (g + 12) gi = I 1 ∧ (∀ i, i ≠ gi → ∀ x, 8 ≤ x → x ≤ 16 → sA S' (g + x) i = sA S (g + x) i) ∧ ∀ x, x < g ∨ g < x ∧ x < g + 8 ∨ g + 16 < x → Sm S S' x := by
    intro l4 l5 e4 e5
    subst e4
    subst e5
    have dv : I (yL Y : Int) / 2 - I (yN Y : Int) = I ((yL Y / 2 : Nat) - (yN Y : Int)) := by
      rw [show (2 : Int32) = I 2 from rfl, I_div (by omega) (by omega), I_sub]
      rfl
    have nar : vp_nar .boolean (0 : Int32) = 0 := rfl
    unfold F_X3_openGroup_L80
    simp only [sI_uA, h18, gcl, if_neg (I_bnd hgi (by omega)), bnd, h.2.1, h.2.2.1, h.2.2.2.2.2.1, dv, nar, I_suc]
    have ee : ∀ a c : Nat, (g + a = g + c) = (a = c) := fun a c => propext ⟨fun q => by omega, fun q => by omega⟩
    refine ⟨_, rfl, sI_self _ _ _ _, fun j hj => by rw [sI_ne _ _ _ hj]; rfl, ?_, ?_, ?_, ?_⟩
    · refine ⟨?_, ?_, ?_, ?_, ?_, ?_, ?_, ?_⟩ <;> simp [sA_uI, sA_uA, ee, up1_if]
    · simp [sA_uI, sA_uA, ee, up1_if]
      rfl
    · intro i hi x h1 h2
      simp only [sA_uI, sA_uA, ee]
      have xx : x = 8 ∨ x = 9 ∨ x = 10 ∨ x = 11 ∨ x = 12 ∨ x = 13 ∨ x = 14 ∨ x = 15 ∨ x = 16 := by omega
      rcases xx with rfl | rfl | rfl | rfl | rfl | rfl | rfl | rfl | rfl <;> simp [up1_if, hi]
    · intro x hx
      exact (by repeat' (first | exact Sm.rfl | (refine Sm.uI ?_ (by omega)) | (refine Sm.uA ?_ (by omega)) | (refine Sm.uJ ?_ (by omega)) | (refine Sm.uL ?_ (by omega)) | (refine Sm.uR ?_ (by omega))))
  have lp : ∀ (d p nf : Nat), p + d = yV Y → d < nf → ∃ S', F_X3_openGroup_L20 sh f g b 14 (I c) nf S (I (wrN Y p)) (I (pwN Y p)) (I p) = some (1, S') ∧ sI S' g 18 = I ((gi + 1 : Nat) : Int) ∧ (∀ j, j ≠ 18 → sI S' g j = sI S g j) ∧ gpC S' g gi c Y ∧ sA S' (g + 12) gi = I 1 ∧ (∀ i, i ≠ gi → ∀ x, 8 ≤ x → x ≤ 16 → sA S' (g + x) i = sA S (g + x) i) ∧ ∀ x, x < g ∨ g < x ∧ x < g + 8 ∨ g + 16 < x → Sm S S' x := by
    intro d
    induction d with
    | zero =>
      intro p nf h1 h2
      obtain ⟨nf, rfl⟩ : ∃ e, nf = e + 1 := ⟨nf - 1, by omega⟩
      have : p = yV Y := by omega
      subst this
      rw [F_X3_openGroup_L20, h16, if_pos (by rw [I_leN (by omega) (by omega)]; omega)]
      exact en _ _ rfl rfl
    | succ d ih =>
      intro p nf h1 h2
      obtain ⟨nf, rfl⟩ : ∃ e, nf = e + 1 := ⟨nf - 1, by omega⟩
      have c3 : ¬ (3 : Int32) ≤ I p := by
        rw [show (3 : Int32) = I ((3 : Nat) : Int) from rfl, I_leN (by omega) (by omega)]; omega
      have pcl : (I (p : Int)).toNatClampNeg = p := I_clN (by omega)
      have up := ok.2.2.2.2.1 p (by omega)
      have r4 := ok.1.2.1
      have ucl : (I (yU Y p : Int)).toNatClampNeg = yU Y p := I_clN (by omega)
      have bk := kb.2.2.2 (yU Y p) up
      have lt := (ok.1.2.2.2 (yU Y p) up).2.2.2.2.1
      have sx : (2 : Int32) * ((2 : Int32) - I (bL (yB Y) (yU Y p) : Int)) = I ((2 * (2 - bL (yB Y) (yU Y p)) : Nat) : Int) := by
        rw [show (2 : Int32) = I 2 from rfl, I_sub, I_mul]; congr 1; omega
      have ps : I (pwN Y p : Int) + I ((2 ^ (2 * (2 - bL (yB Y) (yU Y p))) : Nat) : Int) = I (pwN Y (p + 1) : Int) := by
        rw [I_add]; rfl
      have wm : I (wrN Y p) * I (bW (yB Y) (yU Y p)) = I (wrN Y (p + 1)) := by
        rw [I_mul]; rfl
      rw [F_X3_openGroup_L20, h16, if_neg (by rw [I_leN (by omega) (by omega)]; omega), if_neg c3]
      have r6 : sA S (14 + 6) p = I (yU Y p) := (h.2.2.2.2.2.2.2 p (by omega)).1
      simp only [pcl, if_neg (I_bnd (show p < 3 by omega) (by omega)), r6, bnd, ucl, if_neg (I_bnd (show yU Y p < 4 by omega) (by omega)), bk.2.1, bk.2.2.1, sx, one_shl (show 2 * (2 - bL (yB Y) (yU Y p)) < 31 by omega), ps, wm, I_suc]
      exact ih (p + 1) nf (by omega) (by omega)
  unfold F_X3_openGroup
  rw [h18, if_pos (by rw [show (20 : Int32) = I ((20 : Nat) : Int) from rfl, I_ltN (by omega) (by omega)]; exact hgi)]
  exact lp (yV Y) 0 f (by omega) (by omega)
end U9u
abbrev yRows (Y : Ly) : List (Nat → Nat) := yLv Y (yL Y / 2) (List.range (yL Y)) (fun _ => 99)
section U9v
variable (B : Bk) (n : Nat) (ek : Nat → Nat) (V : Nat)
noncomputable def okC (c : Nat) : Bool := @decide (yOk (yC B n ek V c)) (Classical.propDecidable _)
theorem okC_iff {c : Nat} : okC B n ek V c = true ↔ yOk (yC B n ek V c) := by
  unfold okC
  exact @decide_eq_true_iff _ (Classical.propDecidable _)
noncomputable def gls (c : Nat) : List Nat := (List.range c).filter (okC B n ek V)
noncomputable def dls : Nat → List Dw
  | 0 => []
  | c + 1 => if okC B n ek V c = true then dls c ++ nwL (yC B n ek V c) (gls B n ek V c).length (yRows (yC B n ek V c)) else dls c
theorem gls_s (c : Nat) : gls B n ek V (c + 1) = gls B n ek V c ++ (if okC B n ek V c = true then [c] else []) := by
  unfold gls
  rw [List.range_succ, List.filter_append, List.filter_cons, List.filter_nil]
theorem dls_lt (c : Nat) : ∀ d, d ∈ dls B n ek V c → d.1 < (gls B n ek V c).length := by
  induction c with
  | zero => intro d hd; simp [dls] at hd
  | succ c ih =>
    intro d hd
    rw [dls] at hd
    rw [gls_s, List.length_append]
    by_cases k : okC B n ek V c = true
    · rw [if_pos k, List.mem_append] at hd
      rw [if_pos k, List.length_singleton]
      rcases hd with hd | hd
      · have := ih d hd
        omega
      · unfold nwL at hd
        rw [List.mem_map] at hd
        obtain ⟨ρ, _, rfl⟩ := hd
        simp
    · rw [if_neg k] at hd
      have := ih d hd
      omega
theorem dls_pre (c d : Nat) : ∃ E, dls B n ek V (c + d) = dls B n ek V c ++ E := by
  induction d with
  | zero => exact ⟨[], by rw [List.append_nil]; rfl⟩
  | succ d ih =>
    obtain ⟨E, e⟩ := ih
    rw [show c + (d + 1) = c + d + 1 by omega, dls]
    by_cases k : okC B n ek V (c + d) = true
    · rw [if_pos k, e]
      exact ⟨_, List.append_assoc _ _ _⟩
    · rw [if_neg k]
      exact ⟨E, e⟩
def asB (V c : Nat) : Bool := (List.range (V - 1)).all (fun p => decide (cdU V c p ≤ cdU V c (p + 1)))
theorem as_20 : ∀ V : Fin 4, ∀ c : Fin 64, c.val < 4 ^ V.val → asB V.val c.val = true → (List.range c.val).countP (asB V.val) < 20 := by decide +kernel
theorem gls_20 {c : Nat} (hV : V ≤ 3) (hc : c < 4 ^ V) (k : okC B n ek V c = true) : (gls B n ek V c).length < 20 := by
  have as : ∀ x, okC B n ek V x = true → asB V x = true := by
    intro x hx
    have ok := (okC_iff B n ek V).mp hx
    unfold asB
    rw [List.all_eq_true]
    intro p hp
    have hp := List.mem_range.mp hp
    exact decide_eq_true (ok.2.2.2.2.2.1 p (by show p + 1 < V; omega))
  have c64 : 4 ^ V ≤ 4 ^ 3 := Nat.pow_le_pow_right (by omega) hV
  have a := as_20 ⟨V, by omega⟩ ⟨c, by omega⟩ hc (as c k)
  simp only at a
  have m : (List.range c).countP (okC B n ek V) ≤ (List.range c).countP (asB V) := List.countP_mono_left (fun x _ h => as x h)
  unfold gls
  rw [← List.countP_eq_length_filter]
  omega
end U9v
