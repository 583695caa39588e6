section BJa
variable {sh : List Sh} {f : Nat} {S : St} {g G : Nat} {code wd : Int32} {e : Nat → Nat → Nat} {tp : Nat → Int} {pq : Nat → Bool}
abbrev xF (S S' : St) : Prop := ∀ x, ¬ (40 ≤ x ∧ x ≤ 43) → Sm S S' x
theorem c_ex10 (hf : 1000 ≤ f) (H : ∀ T, xF S T → gxI sh f T g G code wd e tp pq) (b : Int32) : ∀ (d j nf : Nat) (T : St), j + d = G → d < nf → xF S T → (∀ i, i < 25 → sA T 41 i = I (mxs e pq j i : Nat) ∧ mxs e pq j i < 63) → (∀ i, i < 12 → sL T 42 i = 0) → ∃ T', F_X8_exactly_L10 sh f 0 code wd b nf T (I j) = F_X8_exactly_L61 sh f 0 code wd b f T' 0 ∧ xF S T' ∧ (∀ i, i < 25 → sA T' 41 i = I (mxs e pq G i : Nat) ∧ mxs e pq G i < 63) ∧ ∀ i, i < 12 → sL T' 42 i = 0 := by
  intro d
  induction d with
  | zero =>
    intro j nf T hj hn F hE hL
    obtain ⟨nf, rfl⟩ : ∃ e, nf = e + 1 := ⟨nf - 1, by omega⟩
    have : j = G := by omega
    subst this
    obtain ⟨a1, a2, a3, a4, a5, a6, a7, a8⟩ := H T F
    rw [F_X8_exactly_L10, a1, Option.bind_some, if_pos a2, a5, if_pos (by rw [I_leN (by omega) (by omega)]; omega)]
    exact ⟨T, rfl, F, hE, hL⟩
  | succ d ih =>
    intro j nf T hj hn F hE hL
    obtain ⟨nf, rfl⟩ : ∃ e, nf = e + 1 := ⟨nf - 1, by omega⟩
    obtain ⟨a1, a2, a3, a4, a5, a6, a7, a8⟩ := H T F
    have jG : j < G := by omega
    rw [F_X8_exactly_L10, a1, Option.bind_some, if_pos a2, a5, if_neg (by rw [I_leN (by omega) (by omega)]; omega), Option.bind_some, if_pos a2, I_clN (show j < _ by omega), if_neg (I_bnd (show j < 20 by omega) (by omega))]
    simp only [a6 j jG, bnd, I_suc]
    by_cases c : pq j = true
    · obtain ⟨c1, c2⟩ := a7 j jG c
      obtain ⟨U, u0, u1, u2⟩ := c_widen (sh := sh) (f := f) hf T hE c1
      have u0' : F_X2_widen sh f T (0 + 40) (J (pw (e j) 25 : Nat)) = some U := u0
      rw [if_pos c, Option.bind_some, if_pos a2, c_dvs (by omega), c2, Option.bind_some, u0', Option.bind_some]
      refine ih (j + 1) nf U (by omega) (by omega) (fun x hx => (F x hx).trans (u2 x (by omega))) (fun i hi => ?_) (fun i hi => by rw [(u2 42 (by omega)).L]; exact hL i hi)
      have : mxs e pq (j + 1) i = max (mxs e pq j i) (e j i) := by rw [mxs, if_pos c]
      rw [this]
      exact u1 i hi
    · rw [if_neg c]
      refine ih (j + 1) nf T (by omega) (by omega) F (fun i hi => ?_) hL
      have : mxs e pq (j + 1) i = mxs e pq j i := by rw [mxs, if_neg c]
      rw [this]
      exact hE i hi
theorem sN_b {E : Nat → Nat} {Z : Nat} : ∀ n, (∀ j, j < n → pq j = true → (tp j).natAbs * pw (fun i => E i - e j i) 25 ≤ Z) → (sN e tp pq E n).natAbs ≤ n * Z
  | 0, _ => by rw [sN]; omega
  | n + 1, h => by
    have ih := sN_b (E := E) (Z := Z) n (fun j hj => h j (by omega))
    rw [sN, Nat.add_mul, Nat.one_mul]
    by_cases c : pq n = true
    · have a := h n (by omega) c
      have e1 : (tp n * (pw (fun i => E i - e n i) 25 : Nat)).natAbs = (tp n).natAbs * pw (fun i => E i - e n i) 25 := by rw [Int.natAbs_mul, Int.natAbs_natCast]
      rw [if_pos c]
      omega
    · rw [if_neg c]
      omega
theorem c_ex61 (hf : 1000 ≤ f) (H : ∀ T, xF S T → gxI sh f T g G code wd e tp pq) (b : Int32) {E : Nat → Nat} (hE63 : ∀ i, i < 25 → E i < 63) (hEe : ∀ j, j < G → pq j = true → ∀ i, e j i ≤ E i) {Z : Nat} (hZ : ∀ j, j < G → pq j = true → (tp j).natAbs * pw (fun i => E i - e j i) 25 ≤ Z) (Z20 : ((20 * Z : Nat) : Int) < 1073741824 ^ 12) : ∀ (d j nf : Nat) (T : St), j + d = G → d < nf → xF S T → (∀ i, i < 25 → sA T 41 i = I (E i : Nat)) → lB3 T ((j : Int) * 1073741824) → lv3 T 42 = sN e tp pq E j → ∃ T' t l, F_X8_exactly_L61 sh f 0 code wd b nf T (I j) = some (toldV t l (b != 0), T') ∧ t * (pw E 25 : Nat) = sN e tp pq E G * l ∧ Nat.gcd t.natAbs l = 1 ∧ 0 < l ∧ xF S T' := by
  intro d
  induction d with
  | zero =>
    intro j nf T hj hn F hE lb hv
    obtain ⟨nf, rfl⟩ : ∃ e, nf = e + 1 := ⟨nf - 1, by omega⟩
    have : j = G := by omega
    subst this
    obtain ⟨a1, a2, a3, a4, a5, a6, a7, a8⟩ := H T F
    have bd := sN_b (e := e) (tp := tp) (pq := pq) (E := E) j hZ
    have b20 := Nat.mul_le_mul_right Z a4
    obtain ⟨U, t, l, u0, u1, u2, u3, u4, u5⟩ := c_reduce (sh := sh) (f := f) hf T (E := E) (fun i hi => ⟨hE i hi, hE63 i hi⟩) (M := (j : Int) * 1073741824 + 1) (by omega) (fun k hk => by have := lb k hk; omega) (by rw [hv]; omega)
    have u0' : F_X2_reduce sh f T (0 + 40) = some U := u0
    have tv := u1 (b != 0)
    rw [hv] at u2
    rw [F_X8_exactly_L61, a1, Option.bind_some, if_pos a2, a5, if_pos (by rw [I_leN (by omega) (by omega)]; omega), u0', Option.bind_some]
    refine ⟨U, t, l, ?_, u2, u3, u4, fun x hx => (F x hx).trans (u5 x (by omega) (by omega) (by omega))⟩
    rw [← tv]
    unfold xtV
    have z3 : sI U (0 + 40) 3 = sI U 40 3 := rfl
    rw [z3]
    by_cases c : sI U 40 3 = 0
    · rw [if_pos c, if_pos c]
    · rw [if_neg c, if_neg c]
      by_cases bz : b = 0
      · rw [if_pos bz, if_neg (show ¬ ((b != 0) = true) by rw [bz]; decide)]
      · rw [if_neg bz, if_pos (bne_iff_ne.mpr bz)]
  | succ d ih =>
    intro j nf T hj hn F hE lb hv
    obtain ⟨nf, rfl⟩ : ∃ e, nf = e + 1 := ⟨nf - 1, by omega⟩
    obtain ⟨a1, a2, a3, a4, a5, a6, a7, a8⟩ := H T F
    have jG : j < G := by omega
    have nb : ¬ (I (j : Int) < 0 ∨ 20 ≤ j) := I_bnd (show j < 20 by omega) (by omega)
    rw [F_X8_exactly_L61, a1, Option.bind_some, if_pos a2, a5, if_neg (by rw [I_leN (by omega) (by omega)]; omega), Option.bind_some, if_pos a2, I_clN (show j < _ by omega), if_neg nb]
    simp only [a6 j jG]
    by_cases c : pq j = true
    · obtain ⟨c1, c2⟩ := a7 j jG c
      obtain ⟨c3, c4, c5, c6⟩ := a8 j jG c
      have z := hZ j jG c
      obtain ⟨U, u0, u1, u2, u3⟩ := c_xadd (sh := sh) (f := f) hf T (E := E) (e := e j) (fun i hi => ⟨hE i hi, hE63 i hi, hEe j jG c i⟩) c1 ⟨c3, c4⟩ (M := (j : Int) * 1073741824) (by omega) lb (by omega)
      have u0' : F_X2_add sh f T (0 + 40) (J (tp j)) (J (pw (e j) 25 : Nat)) = some U := u0
      have go : ∀ w : Int64, w * (sA T (g + 13) j).toInt64 = J (tp j) → F_X8_exactly_L114 sh f 0 code wd b (F_X8_exactly_L61 sh f 0 code wd b nf) T (I j) w = F_X8_exactly_L61 sh f 0 code wd b nf U (I ((j + 1 : Nat) : Int)) := fun w hw => by
        unfold F_X8_exactly_L114
        simp only [a1, Option.bind_some]
        rw [if_pos a2, I_clN (show j < _ by omega), if_neg nb, if_pos a2, c_dvs (by omega), c2, Option.bind_some, hw, u0', Option.bind_some]
        simp only [bnd, I_suc]
      have nx : ∃ T' t l, F_X8_exactly_L61 sh f 0 code wd b nf U (I ((j + 1 : Nat) : Int)) = some (toldV t l (b != 0), T') ∧ t * (pw E 25 : Nat) = sN e tp pq E G * l ∧ Nat.gcd t.natAbs l = 1 ∧ 0 < l ∧ xF S T' := by
        refine ih (j + 1) nf U (by omega) (by omega) (fun x hx => (F x hx).trans (u3 x (by omega) (by omega))) (fun i hi => by rw [(u3 41 (by omega) (by omega)).A]; exact hE i hi) (fun k hk => by have := u1 k hk; omega) ?_
        rw [u2, hv, sN, if_pos c]
      rw [if_pos c]
      by_cases wz : wd = 0
      · obtain ⟨w, w1, w2⟩ := c5 wz
        have := go w w2
        rw [if_pos wz, Option.bind_some, if_pos a2, w1, Option.bind_some, this]
        exact nx
      · have := go _ (c6 wz)
        rw [if_neg wz, Option.bind_some, if_pos a2, if_neg nb, this]
        exact nx
    · rw [if_neg c]
      simp only [bnd, I_suc]
      refine ih (j + 1) nf T (by omega) (by omega) F hE (fun k hk => by have := lb k hk; omega) ?_
      rw [hv, sN, if_neg c, Int.add_zero]
theorem c_exactly (hf : 1000 ≤ f) (H : ∀ T, xF S T → gxI sh f T g G code wd e tp pq) (b : Int32) {Z : Nat} (hZ : ∀ j, j < G → pq j = true → (tp j).natAbs * pw (fun i => mxs e pq G i - e j i) 25 ≤ Z) (Z20 : ((20 * Z : Nat) : Int) < 1073741824 ^ 12) : ∃ T' t l, F_X8_exactly sh f S 0 code wd b = some (toldV t l (b != 0), T') ∧ t * (pw (mxs e pq G) 25 : Nat) = sN e tp pq (mxs e pq G) G * l ∧ Nat.gcd t.natAbs l = 1 ∧ 0 < l ∧ xF S T' := by
  obtain ⟨A, a0, a1, a2, a3⟩ := c_xclear (sh := sh) (f := f) hf S
  have FA : xF S A := fun x hx => a3 x (by omega) (by omega)
  have G20 := (H S (fun _ _ => Sm.rfl)).2.2.2.1
  obtain ⟨B, b0, b1, b2, b3⟩ := c_ex10 (sh := sh) (f := f) hf H b G 0 f A (by omega) (by omega) FA (fun i hi => ⟨by rw [mxs]; exact a1 i hi, by rw [mxs]; omega⟩) a2
  obtain ⟨T', t, l, t0, t1, t2, t3, t4⟩ := c_ex61 (sh := sh) (f := f) hf H b (E := mxs e pq G) (fun i hi => (b2 i hi).2) (fun j hj p i => mxs_ge e pq i p G hj) hZ Z20 G 0 f B (by omega) (by omega) b1 (fun i hi => (b2 i hi).1) (fun k hk => by rw [b3 k hk]; simp) (by
    have : lv3 B 42 = dv 1073741824 (fun _ => 0) 12 := dv_cg (fun k hk => by rw [b3 k hk]; rfl)
    rw [this, dv_zero, sN])
  have a0' : F_X2_clear sh f S (0 + 40) = some A := a0
  have b0' : F_X8_exactly_L10 sh f 0 code wd b f A 0 = _ := b0
  have t0' : F_X8_exactly_L61 sh f 0 code wd b f B 0 = _ := t0
  unfold F_X8_exactly
  rw [a0', Option.bind_some, b0', t0']
  exact ⟨T', t, l, rfl, t1, t2, t3, t4⟩
end BJa
