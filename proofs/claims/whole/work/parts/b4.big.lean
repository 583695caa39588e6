section B4a
theorem lgz {a c : Int} (ha : -9223372036854775808 ≤ a ∧ a < 9223372036854775808) (hc : -9223372036854775808 ≤ c ∧ c < 9223372036854775808) : (0 ≤ lg_cmp (J a) (J c)) = (c ≤ a) ∧ (lg_cmp (J a) (J c) ≤ 0) = (a ≤ c) ∧ (0 < lg_cmp (J a) (J c)) = (c < a) ∧ (lg_cmp (J a) (J c) = 0) = (a = c) := by
  have g : (J a > J c) = (c < a) := by
    show (J c < J a) = _
    rw [J_lt hc ha]
  have g0 : (J a = J c) = (a = c) := J_eq ha hc
  unfold lg_cmp
  simp only [g, g0]
  by_cases c1 : c < a
  · rw [if_pos c1]
    exact ⟨propext ⟨fun _ => by omega, fun _ => by decide⟩, propext ⟨fun h => absurd h (by decide), fun h => by omega⟩, propext ⟨fun _ => c1, fun _ => by decide⟩, propext ⟨fun h => absurd h (by decide), fun h => by omega⟩⟩
  · rw [if_neg c1]
    by_cases c2 : a = c
    · rw [if_pos c2]
      exact ⟨propext ⟨fun _ => by omega, fun _ => by decide⟩, propext ⟨fun _ => by omega, fun _ => by decide⟩, propext ⟨fun h => absurd h (by decide), fun h => by omega⟩, propext ⟨fun _ => c2, fun _ => rfl⟩⟩
    · rw [if_neg c2]
      exact ⟨propext ⟨fun h => absurd h (by decide), fun h => by omega⟩, propext ⟨fun _ => by omega, fun _ => by decide⟩, propext ⟨fun h => absurd h (by decide), fun h => by omega⟩, propext ⟨fun h => absurd h (by decide), fun h => absurd h c2⟩⟩
theorem c_labs {sh : List Sh} {f : Nat} {S : St} {b : Int} (h : -9223372036854775808 < b ∧ b < 9223372036854775808) : F_J9_abs_067f4 sh f S (J b) = some (J (b.natAbs : Int)) := by
  unfold F_J9_abs_067f4
  have q := (lgz (a := b) (c := 0) (by omega) (by omega)).1
  rw [show (0 : Int64) = J 0 from rfl]
  simp only [q]
  by_cases c : 0 ≤ b
  · rw [if_pos c, show (b.natAbs : Int) = b by omega]
  · rw [if_neg c, J_neg, show (b.natAbs : Int) = -b by omega]
theorem dv_z {B : Int} {x : Nat → Int} (hB : 1 ≤ B) : ∀ {m : Nat}, (∀ k, k < m → 0 ≤ x k) → 0 ≤ dv B x m ∧ (dv B x m = 0 ↔ ∀ k, k < m → x k = 0)
  | 0, _ => by simp [dv]
  | m + 1, h => by
    obtain ⟨a, b⟩ := dv_z hB (m := m) (fun k hk => h k (by omega))
    have p : 0 < B ^ m := Int.pow_pos (by omega)
    have c := h m (by omega)
    have q : 0 ≤ x m * B ^ m := Int.mul_nonneg c (by omega)
    rw [dv]
    refine ⟨by omega, fun e => ?_, fun e => ?_⟩
    · have e1 : dv B x m = 0 := by omega
      have e2 : x m * B ^ m = 0 := by omega
      intro k hk
      by_cases km : k = m
      · subst km
        rcases Int.mul_eq_zero.mp e2 with z | z
        · exact z
        · omega
      · exact b.mp e1 k (by omega)
    · rw [b.mpr (fun k hk => e k (by omega)), e m (by omega), Int.zero_mul]
      rfl
theorem dv_low {B : Int} {x : Nat → Int} : ∀ m : Nat, dv B x (m + 1) = x 0 + B * dv B (fun k => x (k + 1)) m
  | 0 => by simp [dv]
  | m + 1 => by
    rw [dv, dv_low m, dv, Int.pow_succ]
    grind
theorem wz_low (S : St) (c : Nat) : wz S c % 2 = uu (sA S c 0) % 2 := by
  unfold wz
  rw [dv_low 15]
  omega
end B4a
theorem ngm (a n : Int) : (-(a % n)) % n = (-a) % n := by
  rw [Int.emod_def a n, show -(a - n * (a / n)) = -a + n * (a / n) by omega, Int.add_mul_emod_self_left]
section B4b
variable {sh : List Sh} {f : Nat} {S : St} {c0 c1 : Nat}
theorem r_timesL {A : Nat → Int32} {b : Nat} (hb : b < 2147483648) (p : Int32) : ∀ (d k nf : Nat) (T : St), k + d = 16 → d < nf → (∀ j, j < 16 → sA T c0 j = if j < k then cy (fun j => un (A j) * b) 0 j else A j) → (∀ y, y ≠ c0 → Sm S T y) → ∃ T', F_X12_times_L12 sh f c0 16 p nf T (J (b : Nat)) (J (cr (fun j => un (A j) * b) 0 k : Nat)) (I k) = (if 0 ≤ p then some T' else (F_X12_turns sh f T' c0 16).bind fun y => some y) ∧ (∀ j, j < 16 → sA T' c0 j = cy (fun j => un (A j) * b) 0 j) ∧ ∀ y, y ≠ c0 → Sm S T' y := by
  intro d
  induction d with
  | zero =>
    intro k nf T hk hn g1 F
    obtain ⟨nf, rfl⟩ : ∃ e, nf = e + 1 := ⟨nf - 1, by omega⟩
    have : k = 16 := by omega
    subst this
    rw [F_X12_times_L12, if_pos (by decide)]
    exact ⟨T, rfl, fun j hj => by rw [g1 j hj, if_pos hj], F⟩
  | succ d ih =>
    intro k nf T hk hn g1 F
    obtain ⟨nf, rfl⟩ : ∃ e, nf = e + 1 := ⟨nf - 1, by omega⟩
    have nb : ¬ (I (k : Int) < 0 ∨ 16 ≤ k) := I_bnd (show k < 16 by omega) (by omega)
    have hx : ∀ j, un (A j) * b ≤ b * 4294967295 := fun j => by
      rw [Nat.mul_comm]
      exact Nat.mul_le_mul_left b (by have := un_lt (A j); omega)
    have a := cr_le (x := fun j => un (A j) * b) (c0 := 0) (b := b) (by omega) hx k
    have l1 := hx k
    have e1 : sA T c0 k = A k := by rw [g1 k (by omega), if_neg (by omega)]
    have sm : J (cr (fun j => un (A j) * b) 0 k : Nat) + J (un (A k) : Nat) * J (b : Nat) = J ((cr (fun j => un (A j) * b) 0 k + un (A k) * b : Nat) : Int) := by
      rw [J_mul, J_add]
      norm_cast
    rw [F_X12_times_L12, if_neg (by rw [show (16 : Int32) = I ((16 : Nat) : Int) from rfl, I_leN (by omega) (by omega)]; omega), I_clN (show k < _ by omega), if_neg nb, e1, un_w1, sm]
    simp only [bnd, if_neg nb]
    rw [uu_w3 (by omega), I_suc]
    refine ih (k + 1) nf _ (by omega) (by omega) (fun j hj => ?_) (fun y hy => (F y hy).uA hy)
    rw [sA_uA, if_pos rfl, up1_if]
    by_cases e : j = k
    · rw [if_pos e, if_pos (by omega), e]
      rfl
    · rw [if_neg e, g1 j hj]
      by_cases q : j < k
      · rw [if_pos q, if_pos (by omega)]
      · rw [if_neg q, if_neg (by omega)]
theorem r_times (hf : 1000 ≤ f) (S : St) (c0 : Nat) {b : Int} (hb : -2147483648 < b ∧ b < 2147483648) : ∃ S', F_X12_times sh f S c0 16 (I b) = some S' ∧ wz S' c0 = (wz S c0 * b) % W5 ∧ ∀ y, y ≠ c0 → Sm S S' y := by
  obtain ⟨T, t0, t1, t2⟩ := r_timesL (sh := sh) (f := f) (S := S) (c0 := c0) (A := sA S c0) (b := b.natAbs) (by omega) (I b) 16 0 f S (by omega) (by omega) (fun j _ => by rw [if_neg (by omega)]) (fun _ _ => Sm.rfl)
  have v : wz T c0 = (wz S c0 * (b.natAbs : Int)) % W5 := by
    rw [wz_cy (b := b.natAbs) (by omega) (by omega) (fun j => by
      rw [Nat.mul_comm]
      exact Nat.mul_le_mul_left _ (by have := un_lt (sA S c0 j); omega)) t1]
    have : dv 4294967296 (fun k => ((un (sA S c0 k) * b.natAbs : Nat) : Int)) 16 = wz S c0 * (b.natAbs : Int) := by
      unfold wz
      rw [← dv_mul]
      exact dv_cg (fun k _ => by rw [un_uu]; norm_cast)
    rw [this]
    congr 1
    omega
  have t0' : F_X12_times_L12 sh f c0 16 (I b) f S (J (b.natAbs : Int)) 0 0 = _ := t0
  unfold F_X12_times
  rw [J_I (by omega), c_labs (by omega), Option.bind_some, t0', show (0 : Int32) = I 0 from rfl, ]
  have q : (I 0 ≤ I b) = (0 ≤ b) := I_le (by omega) (by omega)
  simp only [q]
  by_cases c : 0 ≤ b
  · rw [if_pos c]
    refine ⟨T, rfl, ?_, t2⟩
    rw [v, show (b.natAbs : Int) = b by omega]
  · obtain ⟨U, u0, u1, u2⟩ := r_turns (sh := sh) (f := f) hf T c0
    rw [if_neg c, u0]
    refine ⟨U, rfl, ?_, fun y hy => (t2 y hy).trans (u2 y hy)⟩
    rw [u1, v, show (b.natAbs : Int) = -b by omega, ngm, Int.mul_neg, Int.neg_neg]
theorem r_setL {v : Nat} (hv : v < 2147483648) : ∀ (d k nf : Nat) (T : St), k + d = 16 → d < nf → (∀ j, j < k → sA T c0 j = if j = 0 then I v else 0) → (∀ y, y ≠ c0 → Sm S T y) → ∃ T', F_X12_set_L2 sh f c0 16 (I v) nf T (I k) = some T' ∧ (∀ j, j < 16 → sA T' c0 j = if j = 0 then I v else 0) ∧ ∀ y, y ≠ c0 → Sm S T' y := by
  intro d
  induction d with
  | zero =>
    intro k nf T hk hn g1 F
    obtain ⟨nf, rfl⟩ : ∃ e, nf = e + 1 := ⟨nf - 1, by omega⟩
    have : k = 16 := by omega
    subst this
    rw [F_X12_set_L2, if_pos (by decide)]
    exact ⟨T, rfl, g1, F⟩
  | succ d ih =>
    intro k nf T hk hn g1 F
    obtain ⟨nf, rfl⟩ : ∃ e, nf = e + 1 := ⟨nf - 1, by omega⟩
    have nb : ¬ (I (k : Int) < 0 ∨ 16 ≤ k) := I_bnd (show k < 16 by omega) (by omega)
    have st : ∀ x : Int32, x = (if k = 0 then I (v : Int) else 0) → ∀ j, j < k + 1 → sA (uA T c0 k x) c0 j = if j = 0 then I v else 0 := fun x hx j hj => by
      rw [sA_uA, if_pos rfl, up1_if]
      by_cases e : j = k
      · rw [if_pos e, e, hx]
      · rw [if_neg e, g1 j (by omega)]
    rw [F_X12_set_L2, if_neg (by rw [show (16 : Int32) = I ((16 : Nat) : Int) from rfl, I_leN (by omega) (by omega)]; omega), I_clN (show k < _ by omega), if_neg nb]
    simp only [bnd, I_suc]
    rw [show (0 : Int32) = I ((0 : Nat) : Int) from rfl, ite_eqN (by omega) (by omega)]
    by_cases c : k = 0
    · rw [if_pos c]
      exact ih (k + 1) nf _ (by omega) (by omega) (st _ (by rw [if_pos c])) (fun y hy => (F y hy).uA hy)
    · rw [if_neg c, if_pos (by rw [I_leN (by omega) (by omega)]; omega), if_neg (show ¬ (I (k : Int) < I ((0 : Nat) : Int) ∨ 16 ≤ k) from nb)]
      exact ih (k + 1) nf _ (by omega) (by omega) (st _ (by rw [if_neg c]; rfl)) (fun y hy => (F y hy).uA hy)
theorem r_set (hf : 1000 ≤ f) (S : St) (c0 : Nat) {v : Nat} (hv : v < 2147483648) : ∃ S', F_X12_set sh f S c0 16 (I v) = some S' ∧ wz S' c0 = v ∧ ∀ y, y ≠ c0 → Sm S S' y := by
  obtain ⟨T, t0, t1, t2⟩ := r_setL (sh := sh) (f := f) (S := S) (c0 := c0) hv 16 0 f S (by omega) (by omega) (fun j hj => by omega) (fun _ _ => Sm.rfl)
  refine ⟨T, t0, ?_, t2⟩
  unfold wz
  rw [dv_low 15, t1 0 (by omega), if_pos rfl, uu_I v (by omega), (dv_z (B := 4294967296) (by omega) (fun k _ => (uu_bd _).1)).2.mpr (fun k hk => by rw [t1 (k + 1) (by omega), if_neg (by omega)]; rfl)]
  omega
theorem r_copL (hc : c1 ≠ c0) : ∀ (d k nf : Nat) (T : St), k + d = 16 → d < nf → (∀ j, j < k → sA T c0 j = sA S c1 j) → (∀ y, y ≠ c0 → Sm S T y) → ∃ T', F_X12_copies_L2 sh f c0 16 c1 16 nf T (I k) = some T' ∧ (∀ j, j < 16 → sA T' c0 j = sA S c1 j) ∧ ∀ y, y ≠ c0 → Sm S T' y := by
  intro d
  induction d with
  | zero =>
    intro k nf T hk hn g1 F
    obtain ⟨nf, rfl⟩ : ∃ e, nf = e + 1 := ⟨nf - 1, by omega⟩
    have : k = 16 := by omega
    subst this
    rw [F_X12_copies_L2, if_pos (by decide)]
    exact ⟨T, rfl, g1, F⟩
  | succ d ih =>
    intro k nf T hk hn g1 F
    obtain ⟨nf, rfl⟩ : ∃ e, nf = e + 1 := ⟨nf - 1, by omega⟩
    have nb : ¬ (I (k : Int) < 0 ∨ 16 ≤ k) := I_bnd (show k < 16 by omega) (by omega)
    rw [F_X12_copies_L2, if_neg (by rw [show (16 : Int32) = I ((16 : Nat) : Int) from rfl, I_leN (by omega) (by omega)]; omega), I_clN (show k < _ by omega), if_neg nb, if_neg nb]
    simp only [bnd, I_suc]
    refine ih (k + 1) nf _ (by omega) (by omega) (fun j hj => ?_) (fun y hy => (F y hy).uA hy)
    rw [sA_uA, if_pos rfl, up1_if]
    by_cases e : j = k
    · rw [if_pos e, e]; exact (F c1 hc).A k
    · rw [if_neg e, g1 j (by omega)]
theorem r_wcopies (hf : 1000 ≤ f) (S : St) {c0 c1 : Nat} (hc : c1 ≠ c0) : ∃ S', F_X12_copies sh f S c0 16 c1 16 = some S' ∧ wz S' c0 = wz S c1 ∧ ∀ y, y ≠ c0 → Sm S S' y := by
  obtain ⟨T, t0, t1, t2⟩ := r_copL (sh := sh) (f := f) (S := S) (c0 := c0) hc 16 0 f S (by omega) (by omega) (fun j hj => by omega) (fun _ _ => Sm.rfl)
  exact ⟨T, t0, wz_cg t1, t2⟩
theorem r_isZL : ∀ (d k nf : Nat) (b : Bool), k + d = 16 → d < nf → ∃ r, F_X12_isZero_L4 sh f S c0 16 nf (if b = true then 1 else 0) (I k) = some r ∧ (b = true ∧ (∀ j, k ≤ j → j < 16 → uu (sA S c0 j) = 0) → r = 1) ∧ (¬ (b = true ∧ ∀ j, k ≤ j → j < 16 → uu (sA S c0 j) = 0) → r = 0) := by
  intro d
  induction d with
  | zero =>
    intro k nf b hk hn
    obtain ⟨nf, rfl⟩ : ∃ e, nf = e + 1 := ⟨nf - 1, by omega⟩
    have : k = 16 := by omega
    subst this
    rw [F_X12_isZero_L4, if_pos (by decide)]
    cases b with
    | true => exact ⟨1, by rw [if_neg (by decide), if_pos rfl], fun _ => rfl, fun q => absurd ⟨rfl, fun j h1 h2 => by omega⟩ q⟩
    | false => exact ⟨0, by rw [if_neg (by decide), if_neg (by decide)], fun q => absurd q.1 (by decide), fun _ => rfl⟩
  | succ d ih =>
    intro k nf b hk hn
    obtain ⟨nf, rfl⟩ : ∃ e, nf = e + 1 := ⟨nf - 1, by omega⟩
    have nb : ¬ (I (k : Int) < 0 ∨ 16 ≤ k) := I_bnd (show k < 16 by omega) (by omega)
    rw [F_X12_isZero_L4, if_neg (by rw [show (16 : Int32) = I ((16 : Nat) : Int) from rfl, I_leN (by omega) (by omega)]; omega), I_clN (show k < _ by omega)]
    cases b with
    | false =>
      rw [if_pos (show (if false = true then (1 : Int32) else 0) = 0 by decide)]
      simp only [bnd, I_suc]
      obtain ⟨r, h1, h2, h3⟩ := ih (k + 1) nf false (by omega) (by omega)
      rw [if_neg (by decide)] at h1
      exact ⟨r, h1, fun q => absurd q.1 (by decide), fun _ => h3 (fun q => absurd q.1 (by decide))⟩
    | true =>
      rw [if_pos rfl, if_neg (by decide), if_neg nb]
      have q0 := uu_0 (sA S c0 k)
      rw [bnd, bnd, I_suc]
      simp only [q0]
      by_cases c : uu (sA S c0 k) = 0
      · obtain ⟨r, h1, h2, h3⟩ := ih (k + 1) nf true (by omega) (by omega)
        rw [if_pos rfl] at h1
        rw [if_pos c]
        refine ⟨r, h1, fun q => h2 ⟨rfl, fun j a b => q.2 j (by omega) b⟩, fun q => h3 (fun p => q ⟨trivial, fun j a b => ?_⟩)⟩
        by_cases e : j = k
        · rw [e]; exact c
        · exact p.2 j (by omega) b
      · obtain ⟨r, h1, h2, h3⟩ := ih (k + 1) nf false (by omega) (by omega)
        rw [if_neg (by decide)] at h1
        rw [if_neg c]
        exact ⟨r, h1, fun q => absurd (q.2 k (by omega) (by omega)) c, fun _ => h3 (fun q => absurd q.1 (by decide))⟩
theorem r_isZero (hf : 1000 ≤ f) (S : St) (c0 : Nat) : F_X12_isZero sh f S c0 16 = some (if wz S c0 = 0 then 1 else 0) := by
  obtain ⟨r, h1, h2, h3⟩ := r_isZL (sh := sh) (f := f) (S := S) (c0 := c0) 16 0 f true (by omega) (by omega)
  rw [if_pos rfl] at h1
  have e : F_X12_isZero sh f S c0 16 = some r := h1
  have z := (dv_z (B := 4294967296) (x := fun k => uu (sA S c0 k)) (by omega) (m := 16) (fun k _ => (uu_bd _).1)).2
  rw [e]
  by_cases c : wz S c0 = 0
  · rw [if_pos c, h2 ⟨rfl, fun j _ b => z.mp c j b⟩]
  · rw [if_neg c, h3 (fun q => c (z.mpr (fun k hk => q.2 k (by omega) hk)))]
end B4b
