/-! WHAT IS DIVIDED BY has small primes alone, and all together one multiple that isn't too large. -/
section BHa
variable {Y : Ly} {ρ : Nat → Nat}
def edl (Y : Ly) (i : Nat) : List Nat → Nat
  | [] => 0
  | x :: r => exh (yH Y x) i + edl Y i r
def kx (B : Bk) (i : Nat) : Nat → Nat
  | 0 => 0
  | k + 1 => kx B i k + exh (bH B k) i
theorem kx_ge {B : Bk} {i k : Nat} : ∀ m, k < m → exh (bH B k) i ≤ kx B i m
  | 0, h => by omega
  | m + 1, h => by
    rw [kx]
    by_cases e : k = m
    · rw [e]; omega
    · have := kx_ge (B := B) (i := i) m (show k < m by omega)
      omega
theorem exh_ok {h : Nat} (h1 : 1 ≤ h) (h2 : h ≤ 99) : pw (exh h) 25 = h := exh_all ⟨h, by omega⟩ (by show h ≠ 0; omega)
theorem yH_b (ok : yOk Y) (x : Nat) : 1 ≤ yH Y x ∧ yH Y x ≤ 99 := by
  have hx := (ok.1.1.2 _ (k_lt ok x)).2.2
  exact ⟨hx.1, hx.2.1⟩
theorem edl_pw (ok : yOk Y) : ∀ l : List Nat, pw (fun i => edl Y i l) 25 = pd (yH Y) l
  | [] => pw_0 25
  | x :: r => by
    have e : (fun i => edl Y i (x :: r)) = fun i => exh (yH Y x) i + edl Y i r := rfl
    have b := yH_b ok x
    rw [e, pw_add (fun i => exh (yH Y x) i) (fun i => edl Y i r), edl_pw ok r, pd]
    congr 1
    exact exh_ok b.1 b.2
theorem edl_le (ok : yOk Y) (i : Nat) : ∀ l : List Nat, edl Y i l ≤ l.length * kx (yB Y) i (bK (yB Y))
  | [] => by rw [edl]; omega
  | x :: r => by
    have := edl_le ok i r
    have k : exh (yH Y x) i ≤ kx (yB Y) i (bK (yB Y)) := kx_ge (B := yB Y) (i := i) (bK (yB Y)) (k_lt ok x)
    rw [edl, List.length_cons, Nat.add_mul, Nat.one_mul]
    omega
theorem kx_pw {B : Bk} (ok : bkOk B) : ∀ k, k ≤ bK B → pw (fun i => kx B i k) 25 ≤ 99 ^ k
  | 0, _ => by
    have : (fun i => kx B i 0) = fun _ => 0 := rfl
    rw [this, pw_0]
    omega
  | k + 1, h => by
    have e : (fun i => kx B i (k + 1)) = fun i => kx B i k + exh (bH B k) i := rfl
    have hx := (ok.1.2 k (by omega)).2.2
    have p : pw (fun i => exh (bH B k) i) 25 = bH B k := exh_ok hx.1 hx.2.1
    rw [e, pw_add (fun i => kx B i k) (fun i => exh (bH B k) i), p, Nat.pow_succ]
    exact Nat.mul_le_mul (kx_pw ok k (by omega)) hx.2.1
/-- exponents of the namings -/
def nax (Y : Ly) (i : Nat) : Nat → Nat
  | 0 => exh (yPP Y).length i
  | m + 1 => nax Y i m + exh (1 + (List.range m).countP (fun j => yF Y j == yF Y m)) i
theorem cnt_3 (ok : yOk Y) {m : Nat} (h : m < yL Y) : (List.range m).countP (fun j => yF Y j == yF Y m) ≤ 3 := by
  by_cases e : m < yN Y
  · have z : (List.range m).countP (fun j => yF Y j == yF Y m) = 0 := by
      rw [List.countP_eq_zero]
      intro j hj
      have := List.mem_range.mp hj
      rw [f_out (Or.inl (show j < yN Y by omega)), f_out (Or.inl e), beq_iff_eq]
      omega
    omega
  · obtain ⟨a1, a2, a3⟩ := pt_a ok.2.2.2.1 (i := m) (by omega) (by omega)
    have z4 := z34 ok a1
    have l := like_cnt ok a1 (show m - yS Y (yP Y m) < yZ Y (yP Y m) by omega)
    rw [show yS Y (yP Y m) + (m - yS Y (yP Y m)) = m by omega] at l
    rw [l]
    have := List.countP_le_length (p := fun j => bG (yB Y) (yU Y (yP Y m)) j == bG (yB Y) (yU Y (yP Y m)) (m - yS Y (yP Y m))) (l := List.range (m - yS Y (yP Y m)))
    rw [List.length_range] at this
    omega
theorem PP_b (ok : yOk Y) : 1 ≤ (yPP Y).length ∧ (yPP Y).length ≤ 6 := by
  refine ⟨List.length_pos_of_mem (y_Gp ok).2.1, ?_⟩
  unfold yPP
  have := List.length_filter_le (kpB Y) (List.range 6)
  rw [List.length_range] at this
  exact this
theorem nax_pw (ok : yOk Y) : ∀ m, m ≤ yL Y → pw (fun i => nax Y i m) 25 = (yPP Y).length * Hn (yF Y) (List.range m)
  | 0, _ => by
    have b := PP_b ok
    have e : (fun i => nax Y i 0) = exh (yPP Y).length := rfl
    rw [e, exh_ok b.1 (by omega)]
    show _ = (yPP Y).length * 1
    rw [Nat.mul_one]
  | m + 1, h => by
    have c := cnt_3 ok (m := m) (by omega)
    have e : (fun i => nax Y i (m + 1)) = fun i => nax Y i m + exh (1 + (List.range m).countP (fun j => yF Y j == yF Y m)) i := rfl
    have p : pw (fun i => exh (1 + (List.range m).countP (fun j => yF Y j == yF Y m)) i) 25 = 1 + (List.range m).countP (fun j => yF Y j == yF Y m) := exh_ok (by omega) (by omega)
    rw [e, pw_add (fun i => nax Y i m) (fun i => exh (1 + (List.range m).countP (fun j => yF Y j == yF Y m)) i), nax_pw ok m (by omega), p, Hn_succ]
    grind
theorem nax_le (ok : yOk Y) {i : Nat} (hi : i < 25) : ∀ m, m ≤ yL Y → nax Y i m ≤ exh 60 i + m * exh 12 i
  | 0, _ => by
    have b := PP_b ok
    have := exh_60 ⟨(yPP Y).length, by omega⟩ (by show (yPP Y).length ≠ 0; omega) ⟨i, hi⟩
    rw [nax]
    have q : exh (yPP Y).length i ≤ exh 60 i := this
    omega
  | m + 1, h => by
    have c := cnt_3 ok (m := m) (by omega)
    have := nax_le ok hi m (by omega)
    have q : exh (1 + (List.range m).countP (fun j => yF Y j == yF Y m)) i ≤ exh 12 i := exh_12 ⟨1 + (List.range m).countP (fun j => yF Y j == yF Y m), by omega⟩ (by show 1 + (List.range m).countP (fun j => yF Y j == yF Y m) ≠ 0; omega) ⟨i, hi⟩
    rw [nax, Nat.add_mul, Nat.one_mul]
    omega
/-- exponents that are no less than those of any divisor -/
def mxE (B : Bk) (i : Nat) : Nat := exh 60 i + 12 * exh 12 i + 4 * kx B i (bK B)
theorem pw_mul4 (e : Nat → Nat) : ∀ n, pw (fun i => n * e i) 25 = pw e 25 ^ n
  | 0 => by
    have : (fun i => 0 * e i) = fun _ => 0 := by funext i; rw [Nat.zero_mul]
    rw [this, pw_0, Nat.pow_zero]
  | n + 1 => by
    have : (fun i => (n + 1) * e i) = fun i => n * e i + e i := by funext i; rw [Nat.add_mul, Nat.one_mul]
    rw [this, pw_add (fun i => n * e i) e, pw_mul4 e n, Nat.pow_succ]
theorem mxE_pw {B : Bk} (ok : bkOk B) : pw (mxE B) 25 ≤ 60 * 12 ^ 12 * (99 ^ 8) ^ 4 := by
  have e : mxE B = fun i => (exh 60 i + 12 * exh 12 i) + 4 * kx B i (bK B) := rfl
  have k := kx_pw ok (bK B) (Nat.le_refl _)
  have k8 : 99 ^ bK B ≤ 99 ^ 8 := Nat.pow_le_pow_right (by omega) ok.1.1
  rw [e, pw_add (fun i => exh 60 i + 12 * exh 12 i) (fun i => 4 * kx B i (bK B)), pw_add (exh 60) (fun i => 12 * exh 12 i), pw_mul4 (exh 12) 12, pw_mul4 (fun i => kx B i (bK B)) 4, exh_ok (by omega) (by omega), exh_ok (by omega) (by omega)]
  exact Nat.mul_le_mul_left _ (Nat.pow_le_pow_left (Nat.le_trans k k8) 4)
theorem gx_hv (ok : yOk Y) (n2 : 2 ≤ yN Y) (w : yNe Y ρ) : ∃ e : Nat → Nat, pw e 25 = yNa Y * hvN Y ρ (yL Y) ∧ ∀ i, i < 25 → e i ≤ mxE (yB Y) i := by
  have L12 := ok.2.2.2.2.2.2.1
  have il := in_len ok w.1 w.2
  refine ⟨fun i => nax Y i (yL Y) + edl Y i ((List.range (yL Y)).filter (fun i => decide (yN Y ≤ i ∧ i < ρ i))), ?_, fun i hi => ?_⟩
  · rw [pw_add (fun i => nax Y i (yL Y)) (fun i => edl Y i ((List.range (yL Y)).filter (fun i => decide (yN Y ≤ i ∧ i < ρ i)))), nax_pw ok (yL Y) (Nat.le_refl _), edl_pw ok, ← hv_pd]
    rfl
  · have a := nax_le ok hi (yL Y) (Nat.le_refl _)
    have b := edl_le ok i ((List.range (yL Y)).filter (fun i => decide (yN Y ≤ i ∧ i < ρ i)))
    have c : ((List.range (yL Y)).filter (fun i => decide (yN Y ≤ i ∧ i < ρ i))).length * kx (yB Y) i (bK (yB Y)) ≤ 4 * kx (yB Y) i (bK (yB Y)) := Nat.mul_le_mul_right _ (by omega)
    have d : yL Y * exh 12 i ≤ 12 * exh 12 i := Nat.mul_le_mul_right _ L12
    show nax Y i (yL Y) + edl Y i _ ≤ mxE (yB Y) i
    unfold mxE
    omega
theorem gx_1 (ok : yOk Y) : ∃ e : Nat → Nat, pw e 25 = yNa Y * 1 ∧ ∀ i, i < 25 → e i ≤ mxE (yB Y) i := by
  have L12 := ok.2.2.2.2.2.2.1
  refine ⟨fun i => nax Y i (yL Y), by rw [nax_pw ok (yL Y) (Nat.le_refl _), Nat.mul_one]; rfl, fun i hi => ?_⟩
  have a := nax_le ok hi (yL Y) (Nat.le_refl _)
  have d : yL Y * exh 12 i ≤ 12 * exh 12 i := Nat.mul_le_mul_right _ L12
  show nax Y i (yL Y) ≤ mxE (yB Y) i
  unfold mxE
  omega
end BHa
