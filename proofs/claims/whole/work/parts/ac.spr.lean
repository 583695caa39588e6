/-! THE REFERENCE goes on from a row by all swaps of legs alike. -/
theorem sw_up {i j : Nat} (h : i ≠ j) : up1 (up1 (fun x => x) i j) j i = sw i j := by
  funext x
  rw [up1_if, up1_if]
  unfold sw
  by_cases c : x = j
  · rw [if_pos c]
    by_cases d : x = i
    · omega
    · rw [if_neg d, if_pos c]
  · rw [if_neg c]
    by_cases d : x = i
    · rw [if_pos d, if_pos d]
    · rw [if_neg d, if_neg d, if_neg c]
/-- the row at V that a swap brings -/
def imV (Y : Ly) (ρ : Nat → Nat) (V : List Nat) (s : Nat → Nat) : Prop := ∃ m, m ∈ V ∧ (yHg Y)[m]? = some (cj s s ρ)
theorem imV_ext {Y : Ly} {ρ s : Nat → Nat} {V st V' st' : List Nat} (e : extV V st V' st') (h : imV Y ρ V s) : imV Y ρ V' s := by
  obtain ⟨m, h1, h2⟩ := h
  exact ⟨m, e.1 m h1, h2⟩
section ACa
variable {sh : List Sh} {f : Nat} {Y : Ly} {S : St} {ρ0 ρ : Nat → Nat} {D0 : Nat → Int32} {d c k p1 : Nat} {p4 l6 : Int32}
/-- what holds all through -/
def spH (S : St) (Y : Ly) (ρ0 : Nat → Nat) (D0 : Nat → Int32) (d : Nat) : Prop := yOk Y ∧ rlC S Y ∧ RB S (yHg Y) ∧ (∀ (x : Nat) (ρ : Nat → Nat), (yHg Y)[x]? = some ρ → yEq Y ρ0 ρ → D0 x = -1) ∧ d < 200
theorem dI_sw {T T' : St} {V st : List Nat} (h : dI S T Y ρ0 D0 d V st c) (g : fr [] [140] T T') : dI S T' Y ρ0 D0 d V st c := by
  obtain ⟨h1, h2, h3, h4, h5, h6, h7, h8⟩ := h
  exact ⟨h1.trans (g.mono (by decide) (by decide)), h2, h3, h4, fun x hx => (g.A (by decide) (by decide) x).trans (h5 x hx), (g.I (by decide)).trans h6, fun i x e => (g.A (by decide) (by decide) i).trans (h7 i x e), h8⟩
theorem rlC_dI {T : St} {V st : List Nat} (H : spH S Y ρ0 D0 d) (h : dI S T Y ρ0 D0 d V st c) : rlC T Y := rlC_fr h.1 H.2.1 (by decide) (by decide) (by decide) (by decide) (by decide)
theorem r_sp82 {i : Nat} (hf : 1000 ≤ f) (H : spH S Y ρ0 D0 d) (hk : (yHg Y)[k]? = some ρ) (i1 : yN Y ≤ i) (k67 : St → Int32 → Int32 → Int32 → Option (Int32 × St)) : ∀ (g j nf : Nat) (T : St) (V st : List Nat), j + g = yL Y → g < nf → i < j → k ∈ V → dI S T Y ρ0 D0 d V st c → (∀ y, i < y → y < j → yF Y i = yF Y y → imV Y ρ V (sw i y)) → ∃ T' V' st', F_X12_spreads_L82 sh f 94 p1 142 3 0 p4 (I d) k67 nf T l6 (I k) (I i) (I j) = k67 T' l6 (I k) (I ((i + 1 : Nat) : Int)) ∧ dI S T' Y ρ0 D0 d V' st' c ∧ extV V st V' st' ∧ ∀ y, i < y → y < yL Y → yF Y i = yF Y y → imV Y ρ V' (sw i y) := by
  obtain ⟨ok, rl, rb, hD, hd⟩ := id H
  have L12 := ok.2.2.2.2.2.2.1
  intro g
  induction g with
  | zero =>
    intro j nf T V st h1 h2 h3 kV dT im
    obtain ⟨nf, rfl⟩ : ∃ e, nf = e + 1 := ⟨nf - 1, by omega⟩
    have : j = yL Y := by omega
    subst this
    have rT := rlC_dI H dT
    rw [F_X12_spreads_L82, rT.1, if_pos (by rw [I_leN (by omega) (by omega)]; omega)]
    simp only [bnd, I_suc]
    exact ⟨T, V, st, rfl, dT, extV.rfl, im⟩
  | succ g ih =>
    intro j nf T V st h1 h2 h3 kV dT im
    obtain ⟨nf, rfl⟩ : ∃ e, nf = e + 1 := ⟨nf - 1, by omega⟩
    have rT := rlC_dI H dT
    have iL : i < yL Y := by omega
    have jL : j < yL Y := by omega
    have a1 : sA T (94 + 39) i = I (yD Y i) := (rT.2.2.1 i iL).2
    have a2 : sA T (94 + 39) j = I (yD Y j) := (rT.2.2.1 j jL).2
    have a3 : sA T (94 + 38) i = I (yK Y i) := (rT.2.2.1 i iL).1
    have a4 : sA T (94 + 38) j = I (yK Y j) := (rT.2.2.1 j jL).1
    have d1 := yD_lt ok iL
    have d2 := yD_lt ok jL
    have k1 := k_lt ok i
    have k2 := k_lt ok j
    have K8 := ok.1.1.1
    have n6 := ok.2.1
    have v3 := ok.2.2.2.1
    have al := f_alike ok i1 iL (show yN Y ≤ j by omega) jL
    have dd : yD Y i = yD Y j ↔ yP Y i = yP Y j := by
      rw [yD_pt i1, yD_pt (show yN Y ≤ j by omega)]
      omega
    have nbi : ¬ (I (i : Int) < 0 ∨ 12 ≤ i) := I_bnd (by omega) (by omega)
    have nbj : ¬ (I (j : Int) < 0 ∨ 12 ≤ j) := I_bnd (by omega) (by omega)
    rw [F_X12_spreads_L82, rT.1, if_neg (by rw [I_leN (by omega) (by omega)]; omega), I_clN (show i < _ by omega), if_neg nbi, I_clN (show j < _ by omega), if_neg nbj, a1, a2, ite_eqN (by omega) (by omega)]
    have skip : ¬ yF Y i = yF Y j → ∃ T' V' st', F_X12_spreads_L82 sh f 94 p1 142 3 0 p4 (I d) k67 nf T l6 (I k) (I i) (I ((j + 1 : Nat) : Int)) = k67 T' l6 (I k) (I ((i + 1 : Nat) : Int)) ∧ dI S T' Y ρ0 D0 d V' st' c ∧ extV V st V' st' ∧ ∀ y, i < y → y < yL Y → yF Y i = yF Y y → imV Y ρ V' (sw i y) := by
      intro nf'
      refine ih (j + 1) nf T V st (by omega) (by omega) (by omega) kV dT (fun y y1 y2 y3 => ?_)
      by_cases q : y = j
      · subst q
        exact absurd y3 nf'
      · exact im y y1 (by omega) y3
    by_cases c1 : yD Y i = yD Y j
    · rw [if_pos c1, if_neg nbi, if_neg nbj, a3, a4, ite_eqN (by omega) (by omega)]
      by_cases c2 : yK Y i = yK Y j
      · have ff : yF Y i = yF Y j := al.mpr ⟨dd.mp c1, c2⟩
        obtain ⟨U, u0, u1, u2⟩ := r_plain (sh := sh) (f := f) hf ok rT.1
        rw [if_pos c2, u0, Option.bind_some, if_neg nbi]
        simp only [bnd]
        rw [if_neg nbj]
        have sU : swC (uA (uA U 140 i (I j)) 140 j (I i)) Y (sw i j) := by
          have := swC_up (swC_up u1 i j) j i
          rw [sw_up (by omega)] at this
          exact this
        have dU : dI S (uA (uA U 140 i (I j)) 140 j (I i)) Y ρ0 D0 d V st c := dI_sw dT ((u2.uA _ _ (by decide)).uA _ _ (by decide))
        obtain ⟨W, V', st', w0, w1, w2, w3⟩ := r_reach (sh := sh) hf ok rl.1 rb hD hd dU sU (Or.inl ⟨i, j, i1, h3, jL, ff, rfl⟩) kV hk
        have w0' : F_X12_reaches sh f (uA (uA U (94 + 46) i (I j)) (94 + 46) j (I i)) 94 (I k) (I d) = some W := w0
        rw [w0', Option.bind_some, I_suc]
        obtain ⟨T', V'', st'', t0, t1, t2, t3⟩ := ih (j + 1) nf W V' st' (by omega) (by omega) (by omega) (w2.1 k kV) w1 (fun y y1 y2 y3 => by
          by_cases q : y = j
          · rw [q]; exact w3
          · exact imV_ext w2 (im y y1 (by omega) y3))
        exact ⟨T', V'', st'', t0, t1, w2.trans t2, t3⟩
      · rw [if_neg c2]
        simp only [bnd, I_suc]
        exact skip (fun e => c2 (al.mp e).2)
    · rw [if_neg c1]
      simp only [bnd, I_suc]
      exact skip (fun e => c1 (dd.mpr (al.mp e).1))
theorem r_sp67 (hf : 1000 ≤ f) (H : spH S Y ρ0 D0 d) (hk : (yHg Y)[k]? = some ρ) (k30 : St → Int32 → Option (Int32 × St)) : ∀ (g i nf : Nat) (T : St) (V st : List Nat), i + g = yL Y → g < nf → yN Y ≤ i → k ∈ V → dI S T Y ρ0 D0 d V st c → (∀ x y, yN Y ≤ x → x < i → x < y → y < yL Y → yF Y x = yF Y y → imV Y ρ V (sw x y)) → ∃ T' V' st', F_X12_spreads_L67 sh f 94 p1 142 3 0 p4 (I d) k30 nf T l6 (I k) (I i) = F_X12_spreads_L173 sh f 94 p1 142 3 0 p4 (I d) k30 f T' l6 (I k) 0 ∧ dI S T' Y ρ0 D0 d V' st' c ∧ extV V st V' st' ∧ ∀ x y, yN Y ≤ x → x < y → y < yL Y → yF Y x = yF Y y → imV Y ρ V' (sw x y) := by
  obtain ⟨ok, rl, rb, hD, hd⟩ := id H
  have L12 := ok.2.2.2.2.2.2.1
  intro g
  induction g with
  | zero =>
    intro i nf T V st h1 h2 h3 kV dT im
    obtain ⟨nf, rfl⟩ : ∃ e, nf = e + 1 := ⟨nf - 1, by omega⟩
    have : i = yL Y := by omega
    subst this
    have rT := rlC_dI H dT
    rw [F_X12_spreads_L67, rT.1, if_pos (by rw [I_leN (by omega) (by omega)]; omega)]
    exact ⟨T, V, st, rfl, dT, extV.rfl, fun x y a b c e => im x y a (by omega) b c e⟩
  | succ g ih =>
    intro i nf T V st h1 h2 h3 kV dT im
    obtain ⟨nf, rfl⟩ : ∃ e, nf = e + 1 := ⟨nf - 1, by omega⟩
    have rT := rlC_dI H dT
    rw [F_X12_spreads_L67, rT.1, if_neg (by rw [I_leN (by omega) (by omega)]; omega)]
    simp only [bnd, I_suc]
    obtain ⟨U, V', st', u0, u1, u2, u3⟩ := r_sp82 (sh := sh) (p1 := p1) (p4 := p4) (l6 := l6) hf H hk h3 (F_X12_spreads_L67 sh f 94 p1 142 3 0 p4 (I d) k30 nf) (yL Y - (i + 1)) (i + 1) f T V st (by omega) (by omega) (by omega) kV dT (fun y y1 y2 => by omega)
    rw [u0]
    obtain ⟨T', V'', st'', t0, t1, t2, t3⟩ := ih (i + 1) nf U V' st' (by omega) (by omega) (by omega) (u2.1 k kV) u1 (fun x y a1 a2 a3 a4 a5 => by
      by_cases q : x = i
      · subst q
        exact u3 y a3 a4 a5
      · exact imV_ext u2 (im x y a1 (by omega) a3 a4 a5))
    exact ⟨T', V'', st'', t0, t1, u2.trans t2, t3⟩
end ACa
