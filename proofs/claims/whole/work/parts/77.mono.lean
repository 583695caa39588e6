section M77
variable {T : Nat → Int} {e : Nat} {D : Dr} {k : TK}
/-- a token's place and the next one's -/
def tkM (e : Nat) (k : TK) : Prop := tkB e k ∧ (k.1 ≠ 5 → k.1 ≠ 0 → tS_ k < k.2.2.1)
theorem tok_M {m : Nat} (hm : m ≤ e) : tkM e (tok T e m) ∧ m ≤ tS_ (tok T e m) := by
  obtain ⟨s1, s2⟩ := skp_le (T := T) e m hm
  obtain ⟨a1, a2, a3, a4, a5, a6⟩ := tokAt_bd (T := T) s2
  have e5 : tS_ (tok T e m) = skp T e e m := a5
  exact ⟨⟨tok_bd hm, fun x y => by rw [e5]; exact a6 x y⟩, by rw [e5]; exact s1⟩
theorem adv_M (h : tkM e k) (h5 : k.1 ≠ 5) (h0 : k.1 ≠ 0) : tkM e (adv T e k) ∧ tS_ k < tS_ (adv T e k) := by
  have a := tok_M (T := T) (h.1.2.1 h5)
  exact ⟨a.1, Nat.lt_of_lt_of_le (h.2 h5 h0) a.2⟩
theorem pInt_M {most : Nat} {zok : Bool} {v : Int × TK} (hk : tkM e k) (h : pInt T e most zok k = .inr v) : tkM e v.2 ∧ tS_ k < tS_ v.2 := by
  have key : ∀ (fr : Nat) (neg : Bool) (k : TK), tkM e k → pIntA T e most zok fr neg k = .inr v → tkM e v.2 ∧ tS_ k < tS_ v.2 := by
    intro fr neg k hk h
    unfold pIntA at h
    by_cases c : k.1 = 2
    · rw [if_pos c] at h
      by_cases c1 : most < tV k ∨ (tV k = 0 ∧ zok = false)
      · rw [if_pos c1] at h; cases h
      · rw [if_neg c1] at h
        cases h
        exact adv_M hk (by omega) (by omega)
    · rw [if_neg c] at h; cases h
  unfold pInt at h
  by_cases c : k.1 = 4
  · rw [if_pos c] at h
    obtain ⟨a, b⟩ := adv_M (T := T) hk (by omega) (by omega)
    obtain ⟨c, d⟩ := key _ _ _ a h
    exact ⟨c, by omega⟩
  · rw [if_neg c] at h; exact key _ _ _ hk h
theorem pHeavy_2 {v : Nat} (h : pHeavy k = .inr v) : k.1 = 2 := by
  unfold pHeavy at h
  by_cases c : k.1 = 2
  · exact c
  · rw [if_neg c] at h; cases h
theorem pLegs_M : ∀ (r n : Nat) (D : Dr) (k : TK) (a : Dr × Nat × TK), tkM e k → pLegs T e r D n k = .inr a → tkM e a.2.2 ∧ tS_ k ≤ tS_ a.2.2 ∧ a.2.2.1 = 1
  | 0, n, D, k, a, _, h => by cases h
  | r + 1, n, D, k, a, hk, h => by
    rw [pLegs] at h
    by_cases c : 3 ≤ n ∧ k.1 = 1 ∧ tW k = 89
    · rw [if_pos c] at h
      cases h
      exact ⟨hk, Nat.le_refl _, c.2.1⟩
    · rw [if_neg c] at h
      by_cases c1 : nmB k = true
      · rw [if_pos c1] at h
        have k1 := nm1 c1
        cases hf : findN D.1 (tW k) (bK D.2) 0 with
        | none => rw [hf] at h; cases h
        | some i =>
          rw [hf] at h
          by_cases c4 : 4 ≤ n
          · simp only [if_pos c4] at h; cases h
          · simp only [if_neg c4] at h
            obtain ⟨x, y⟩ := adv_M (T := T) hk (by omega) (by omega)
            obtain ⟨a1, a2, a3⟩ := pLegs_M r (n + 1) _ _ _ x h
            exact ⟨a1, by omega, a3⟩
      · rw [if_neg c1] at h; cases h
theorem pLine_M {a : Dr × TK} (hk : tkM e k) (h : pLine T e D k = .inr a) : tkM e a.2 ∧ tS_ k < tS_ a.2 := by
  have c : k.1 = 1 := by
    unfold pLine at h
    by_cases c : k.1 = 1
    · exact c
    · rw [if_neg c] at h; cases h
  obtain ⟨x, y⟩ := adv_M (T := T) hk (by omega) (by omega)
  have own : pOwn T e D k = .inr a → tkM e a.2 ∧ tS_ k < tS_ a.2 := by
    intro h
    obtain ⟨b, h1, h2⟩ := bindP_r h
    obtain ⟨v, h3, h4⟩ := bindP_r h2
    obtain ⟨x1, x2, x3⟩ := pNew_r h1
    subst x1
    cases h4
    have n1 := nm1 x3
    obtain ⟨x', y'⟩ := adv_M (T := T) x (by omega) (by omega)
    have p2 := pHeavy_2 h3
    have p2' : (adv T e (adv T e k)).1 = 2 := p2
    obtain ⟨x'', y''⟩ := adv_M (T := T) x' (by omega) (by omega)
    exact ⟨x'', by show tS_ k < tS_ (adv T e (adv T e (adv T e k))); omega⟩
  have two : ∀ what, pTwo T e what D k = .inr a → tkM e a.2 ∧ tS_ k < tS_ a.2 := by
    intro what h
    obtain ⟨b, h1, h2⟩ := bindP_r h
    obtain ⟨c, h3, h4⟩ := bindP_r h2
    obtain ⟨v, h6, h7⟩ := bindP_r h4
    obtain ⟨m, h8, h9⟩ := bindP_r h7
    obtain ⟨x1, x2, x3⟩ := pNew_r h1
    subst x1
    obtain ⟨y1, y2, y3⟩ := pNew_r h3
    subst y1
    cases h9
    have n1 := nm1 x3
    have n2 : (adv T e (adv T e k)).1 = 1 := nm1 y3
    have n3 : (adv T e (adv T e (adv T e k))).1 = 2 := pHeavy_2 h6
    obtain ⟨u1, v1⟩ := adv_M (T := T) x (by omega) (by omega)
    obtain ⟨u2, v2⟩ := adv_M (T := T) u1 (by omega) (by omega)
    obtain ⟨u3, v3⟩ := adv_M (T := T) u2 (by omega) (by omega)
    obtain ⟨u4, v4⟩ := pInt_M u3 h8
    exact ⟨u4, by show tS_ k < tS_ m.2; omega⟩
  have meet : pMeet T e D k = .inr a → tkM e a.2 ∧ tS_ k < tS_ a.2 := by
    intro h
    unfold pMeet at h
    by_cases c4 : 4 ≤ bR D.2
    · rw [if_pos c4] at h; cases h
    · rw [if_neg c4] at h
      obtain ⟨b, h1, h2⟩ := bindP_r h
      obtain ⟨m, h3, h4⟩ := bindP_r h2
      obtain ⟨u1, v1, w1⟩ := pLegs_M 5 0 D _ b x h1
      obtain ⟨u2, v2⟩ := adv_M (T := T) u1 (by omega) (by omega)
      obtain ⟨u3, v3⟩ := pInt_M u2 h3
      by_cases c1 : m.2.1 = 1
      · rw [if_pos c1] at h4
        by_cases c2 : tW m.2 < 1 ∨ 3 < tW m.2
        · rw [if_pos c2] at h4; cases h4
        · rw [if_neg c2] at h4
          by_cases c3 : evenR b.1.2 (bG b.1.2 (bR b.1.2)) b.2.1 = true
          · rw [if_pos c3] at h4
            cases h4
            obtain ⟨u4, v4⟩ := adv_M (T := T) u3 (by omega) (by omega)
            exact ⟨u4, by show tS_ k < tS_ (adv T e m.2); omega⟩
          · rw [if_neg c3] at h4; cases h4
      · rw [if_neg c1] at h4; cases h4
  unfold pLine at h
  rw [if_pos c] at h
  by_cases c1 : tW k = 16110
  · rw [if_pos c1] at h; exact own h
  · rw [if_neg c1] at h
    by_cases c2 : tW k = 525618
    · rw [if_pos c2] at h; exact two 1 h
    · rw [if_neg c2] at h
      by_cases c3 : tW k = 263558
      · rw [if_pos c3] at h; exact two 2 h
      · rw [if_neg c3] at h
        by_cases c4 : tW k = 431284
        · rw [if_pos c4] at h; exact meet h
        · rw [if_neg c4] at h; cases h
end M77
section R78
variable {sh : List Sh} {f : Nat} {S : St} {T : Nat → Int} {e q u m : Nat} {D : Dr} {k : TK}
theorem r_line {more : St → Option (St ⊕ (Nat × St))} (hT : ∀ i, -128 ≤ T i ∧ T i ≤ 127) (he : e ≤ 400) (hf : 1000 ≤ f) (hq : q = 95 ∨ 159 ≤ q) (ck : ckX9 sh q = true) (cx : ckX11 sh 106 = true) (hD : dOk D) (h : rdR S q T e D k (bK D.2)) {n : Nat} (hm : ∀ y, more y = ((F_X12_is sh f y 94 59).bind fun y12 => if y12 = 0 then F_X12_readBook_L2 sh f 94 n y y12 else (F_X12_next sh f y 94).bind fun y13 => F_X12_readBook_L2 sh f 94 n y13 y12)) : (match pLine T e D k with
    | .inl a => ∃ S', F_X12_readBook_L2 sh f 94 (n + 1) S 1 = some (.inr (106, S')) ∧ fR S S' q ∧ stp S' a
    | .inr a => ∃ S', F_X12_readBook_L2 sh f 94 (n + 1) S 1 = more S' ∧ fR S S' q ∧ rdR S' q T e a.1 a.2 (bK a.1.2)) := by
  have stop := fun w : Int32 => r_stop (f := f) (w := w) cx h
  rw [F_X12_readBook_L2, if_neg i10]
  unfold pLine
  simp only [r_isWord hf (by omega : 0 < 8) h, r_isWord hf (by omega : 1 < 8) h, r_isWord hf (by omega : 2 < 8) h, r_isWord hf (by omega : 3 < 8) h, show wdOf 0 = 16110 from rfl, show wdOf 1 = 525618 from rfl, show wdOf 2 = 263558 from rfl, show wdOf 3 = 431284 from rfl, Option.bind_some]
  by_cases c : k.1 = 1
  · have h5 : k.1 ≠ 5 := by omega
    simp only [if_pos c, c, true_and]
    by_cases c1 : tW k = 16110
    · have A := r_own (sh := sh) hT he hf hq ck cx h h5
      simp only [if_pos c1, if_neg i10]
      cases hp : pOwn T e D k with
      | inl a =>
        rw [hp] at A
        obtain ⟨S', a1, a2, a3⟩ := A
        rw [a1]
        exact ⟨S', rfl, a2, a3⟩
      | inr a =>
        rw [hp] at A
        obtain ⟨S', a1, a2, a3⟩ := A
        rw [a1]
        exact ⟨S', (hm S').symm, a2, a3⟩
    · by_cases c2 : tW k = 525618
      · have A := r_two (sh := sh) (what := 1) (Or.inl rfl) hT he hf hq ck cx h h5
        simp only [if_neg c1, if_pos c2, if_neg i10, if_true]
        cases hp : pTwo T e 1 D k with
        | inl a =>
          rw [hp] at A
          obtain ⟨S', a1, a2, a3⟩ := A
          have a1' : F_X12_readKinds sh f S 94 1 = some (.inr (106, S')) := a1
          rw [a1']
          exact ⟨S', rfl, a2, a3⟩
        | inr a =>
          rw [hp] at A
          obtain ⟨S', a1, a2, a3⟩ := A
          have a1' : F_X12_readKinds sh f S 94 1 = some (.inl S') := a1
          rw [a1']
          exact ⟨S', (hm S').symm, a2, a3⟩
      · by_cases c3 : tW k = 263558
        · have A := r_two (sh := sh) (what := 2) (Or.inr rfl) hT he hf hq ck cx h h5
          simp only [if_neg c1, if_neg c2, if_pos c3, if_neg i10, if_true]
          cases hp : pTwo T e 2 D k with
          | inl a =>
            rw [hp] at A
            obtain ⟨S', a1, a2, a3⟩ := A
            have a1' : F_X12_readKinds sh f S 94 2 = some (.inr (106, S')) := a1
            rw [a1']
            exact ⟨S', rfl, a2, a3⟩
          | inr a =>
            rw [hp] at A
            obtain ⟨S', a1, a2, a3⟩ := A
            have a1' : F_X12_readKinds sh f S 94 2 = some (.inl S') := a1
            rw [a1']
            exact ⟨S', (hm S').symm, a2, a3⟩
        · by_cases c4 : tW k = 431284
          · have A := r_meet (sh := sh) hT he hf hq ck cx hD.w h h5
            simp only [if_neg c1, if_neg c2, if_neg c3, if_pos c4, if_neg i10, if_true]
            cases hp : pMeet T e D k with
            | inl a =>
              rw [hp] at A
              obtain ⟨S', a1, a2, a3⟩ := A
              rw [a1]
              exact ⟨S', rfl, a2, a3⟩
            | inr a =>
              rw [hp] at A
              obtain ⟨S', a1, a2, a3⟩ := A
              rw [a1]
              exact ⟨S', (hm S').symm, a2, a3⟩
          · simp only [if_neg c1, if_neg c2, if_neg c3, if_neg c4, if_true, stop, Option.bind_some, cx, not_true_eq_false, if_false]
            exact ⟨_, rfl, thS_fR, thS_stp⟩
  · simp only [c, false_and, if_false, if_true, stop, Option.bind_some, cx, not_true_eq_false]
    exact ⟨_, rfl, thS_fR, thS_stp⟩
theorem r_lines (hT : ∀ i, -128 ≤ T i ∧ T i ≤ 127) (he : e ≤ 400) (hf : 1000 ≤ f) (hq : q = 95 ∨ 159 ≤ q) (ck : ckX9 sh q = true) (cx : ckX11 sh 106 = true) : ∀ (r nf : Nat) (S : St) (D : Dr) (k : TK), r + 1 < nf → e < 2 * r + tS_ k → tkM e k → dOk D → rdR S q T e D k (bK D.2) → (match pLines T e r D k with
    | .inl a => ∃ S', F_X12_readBook_L2 sh f 94 nf S 1 = some (.inr (106, S')) ∧ fR S S' q ∧ stp S' a
    | .inr D' => ∃ S', F_X12_readBook_L2 sh f 94 nf S 1 = some (.inl S') ∧ fR S S' q ∧ dR S' q D' (bK D'.2)) := by
  intro r
  induction r with
  | zero =>
    intro nf S D k h1 h2 hM hD h
    have := hM.1.2.2.2.2
    omega
  | succ r ih =>
    intro nf S D k h1 h2 hM hD h
    obtain ⟨nf, rfl⟩ : ∃ e, nf = e + 1 := ⟨nf - 1, by omega⟩
    have A := r_line (sh := sh) (f := f) (more := fun y => (F_X12_is sh f y 94 59).bind fun y12 => if y12 = 0 then F_X12_readBook_L2 sh f 94 nf y y12 else (F_X12_next sh f y 94).bind fun y13 => F_X12_readBook_L2 sh f 94 nf y13 y12) hT he hf hq ck cx hD h (fun _ => rfl)
    rw [pLines]
    cases hp : pLine T e D k with
    | inl a =>
      rw [hp] at A
      exact A
    | inr a =>
      rw [hp] at A
      obtain ⟨S1, a1, a2, a3⟩ := A
      obtain ⟨o1, o2⟩ := pLine_ok hD hM.1 hp
      obtain ⟨m1, m2⟩ := pLine_M hM hp
      have sE := (r_sort a3).2.2.1
      have stop := fun w : Int32 => r_stop (f := f) (w := w) cx a3
      simp only [bindP]
      rw [a1]
      simp only [r_is (v := 59) (n := 3) (Or.inl ⟨rfl, rfl⟩) a3, Option.bind_some]
      by_cases c3 : a.2.1 = 3
      · obtain ⟨S2, y1, y2, y3⟩ := r_advR (sh := sh) hT he hf hq a3 (by omega)
        obtain ⟨n1, n2⟩ := adv_M (T := T) m1 (by omega) (by omega)
        simp only [if_pos c3, if_neg i10, y1, Option.bind_some, if_neg (by omega : ¬ a.2.1 = 0)]
        have B := ih nf S2 a.1 (adv T e a.2) (by omega) (by omega) n1 o1 y2
        cases hq2 : pLines T e r a.1 (adv T e a.2) with
        | inl b =>
          rw [hq2] at B
          obtain ⟨S3, b1, b2, b3⟩ := B
          exact ⟨S3, b1, (a2.trans (fR.of9 y3)).trans b2, b3⟩
        | inr b =>
          rw [hq2] at B
          obtain ⟨S3, b1, b2, b3⟩ := B
          exact ⟨S3, b1, (a2.trans (fR.of9 y3)).trans b2, b3⟩
      · obtain ⟨nf, rfl⟩ : ∃ e, nf = e + 1 := ⟨nf - 1, by omega⟩
        simp only [if_neg c3, if_true]
        rw [F_X12_readBook_L2, if_pos rfl]
        simp only [sE]
        by_cases c0 : a.2.1 = 0
        · simp only [if_pos c0]
          exact ⟨S1, rfl, a2, a3.2.2.2.2.1⟩
        · simp only [if_neg c0, stop, Option.bind_some, cx, not_true_eq_false, if_false]
          exact ⟨_, rfl, a2.trans thS_fR, thS_stp⟩
end R78
