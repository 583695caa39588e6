/-! THE REFERENCE goes on from a row by swaps of points alike. -/
def pS (Y : Ly) (p i x : Nat) : Nat := if yS Y p ≤ x ∧ x < yS Y p + i then yS Y (p + 1) + (x - yS Y p) else if yS Y (p + 1) ≤ x ∧ x < yS Y (p + 1) + i then yS Y p + (x - yS Y (p + 1)) else x
theorem pS_0 (Y : Ly) (p : Nat) : pS Y p 0 = fun x => x := by
  funext x
  unfold pS
  rw [if_neg (by omega), if_neg (by omega)]
theorem pS_s (Y : Ly) (p i : Nat) (h : i < yZ Y p) : up1 (up1 (pS Y p i) (yS Y p + i) (yS Y (p + 1) + i)) (yS Y (p + 1) + i) (yS Y p + i) = pS Y p (i + 1) := by
  have e : yS Y (p + 1) = yS Y p + yZ Y p := rfl
  funext x
  rw [up1_if, up1_if]
  unfold pS
  by_cases c1 : x = yS Y (p + 1) + i
  · rw [if_pos c1, if_neg (by omega), if_pos (by omega)]
    omega
  · rw [if_neg c1]
    by_cases c2 : x = yS Y p + i
    · rw [if_pos c2, if_pos (by omega)]
      omega
    · rw [if_neg c2]
      by_cases c3 : yS Y p ≤ x ∧ x < yS Y p + i
      · rw [if_pos c3, if_pos (by omega)]
      · rw [if_neg c3, if_neg (show ¬ (yS Y p ≤ x ∧ x < yS Y p + (i + 1)) by omega)]
        by_cases c4 : yS Y (p + 1) ≤ x ∧ x < yS Y (p + 1) + i
        · rw [if_pos c4, if_pos (show yS Y (p + 1) ≤ x ∧ x < yS Y (p + 1) + (i + 1) by omega)]
        · rw [if_neg c4, if_neg (show ¬ (yS Y (p + 1) ≤ x ∧ x < yS Y (p + 1) + (i + 1)) by omega)]
section ADa
variable {sh : List Sh} {f q : Nat} {Y : Ly} {S : St} {ρ0 ρ : Nat → Nat} {D0 : Nat → Int32} {d c k p1 : Nat} {p4 l6 : Int32}
theorem pS_z (ok : yOk Y) {p : Nat} (hp : p + 1 < yV Y) (e : yU Y p = yU Y (p + 1)) : pS Y p (yZ Y p) = yG Y (p + 1) := by
  have v3 := ok.2.2.2.1
  have zz : yZ Y (p + 1) = yZ Y p := by
    unfold yZ
    rw [e]
  have s0 : yS Y 0 = yN Y := rfl
  have s1 : yS Y 1 = yN Y + yZ Y 0 := rfl
  have s2 : yS Y 2 = yN Y + yZ Y 0 + yZ Y 1 := rfl
  have s3 : yS Y 3 = yN Y + yZ Y 0 + yZ Y 1 + yZ Y 2 := rfl
  have eL : yL Y = yS Y (yV Y) := rfl
  have m : yS Y (p + 2) ≤ yL Y := yS_mono (by omega)
  have pp : p = 0 ∨ p = 1 := by omega
  funext x
  unfold pS
  by_cases out : x < yN Y ∨ yL Y ≤ x
  · rw [g_out out]
    rcases pp with rfl | rfl
    · simp only [Nat.zero_add] at *
      rw [if_neg (by omega), if_neg (by omega)]
    · simp only [Nat.reduceAdd] at *
      rw [if_neg (by omega), if_neg (by omega)]
  · obtain ⟨a1, a2, a3⟩ := pt_a v3 (i := x) (by omega) (by omega)
    have g : yG Y (p + 1) x = yS Y (spt (p + 1) (yP Y x)) + (x - yS Y (yP Y x)) := by
      unfold yG
      rw [if_neg out]
    rw [g]
    have aa : yP Y x = 0 ∨ yP Y x = 1 ∨ yP Y x = 2 := by omega
    rcases pp with rfl | rfl
    · simp only [Nat.zero_add] at *
      rcases aa with h | h | h <;> rw [h] at a2 a3 ⊢
      · rw [show spt 1 0 = 1 from rfl, if_pos (by omega)]
      · rw [show spt 1 1 = 0 from rfl, if_neg (by omega), if_pos (by omega)]
      · rw [show spt 1 2 = 2 from rfl, if_neg (by omega), if_neg (by omega)]
        omega
    · simp only [Nat.reduceAdd] at *
      rcases aa with h | h | h <;> rw [h] at a2 a3 ⊢
      · rw [show spt 2 0 = 0 from rfl, if_neg (by omega), if_neg (by omega)]
        omega
      · rw [show spt 2 1 = 2 from rfl, if_pos (by omega)]
      · rw [show spt 2 2 = 1 from rfl, if_neg (by omega), if_pos (by omega)]
theorem gns_iff (ok : yOk Y) {g : Nat} : g ∈ gns Y ↔ ∃ p, p + 1 < yV Y ∧ yU Y p = yU Y (p + 1) ∧ g = p + 1 := by
  have v3 := ok.2.2.2.1
  rw [mem_gns]
  constructor
  · rintro ⟨h | h, kp⟩
    · subst h
      have q := (kp 0 (by omega)).1 (by omega)
      rw [show spt 1 0 = 1 from rfl] at q
      exact ⟨0, q.1, q.2.symm, rfl⟩
    · subst h
      have v : 1 < yV Y := by
        apply Classical.byContradiction
        intro hn
        have := (kp 1 (by omega)).2 (by omega)
        rw [show spt 2 1 = 2 from rfl] at this
        omega
      have q := (kp 1 (by omega)).1 v
      rw [show spt 2 1 = 2 from rfl] at q
      exact ⟨1, q.1, q.2.symm, rfl⟩
  · rintro ⟨p, h1, h2, rfl⟩
    have pp : p = 0 ∨ p = 1 := by omega
    refine ⟨by omega, fun x hx => ?_⟩
    have xx : x = 0 ∨ x = 1 ∨ x = 2 := by omega
    rcases pp with rfl | rfl
    · rcases xx with rfl | rfl | rfl
      · exact ⟨fun _ => ⟨h1, h2.symm⟩, fun h => by omega⟩
      · exact ⟨fun _ => ⟨by show 0 < yV Y; omega, h2⟩, fun h => by omega⟩
      · exact ⟨fun h => ⟨h, rfl⟩, fun _ => rfl⟩
    · rcases xx with rfl | rfl | rfl
      · exact ⟨fun h => ⟨h, rfl⟩, fun _ => rfl⟩
      · exact ⟨fun _ => ⟨h1, h2.symm⟩, fun h => by omega⟩
      · exact ⟨fun _ => ⟨by show 1 < yV Y; omega, h2⟩, fun h => by omega⟩
/-- the rules chosen, the book -/
def spR (sh : List Sh) (S : St) (Y : Ly) (q p1 : Nat) : Prop := sR S 94 5 = some q ∧ ckX9 sh q = true ∧ qOk q ∧ bkR S q (yB Y) ∧ (∀ p, p < yV Y → sA S 142 p = I (yU Y p)) ∧ sI S p1 1 = I (yV Y) ∧ sI S p1 2 = I (yN Y) ∧ (p1 = 111 ∨ p1 = 118 ∨ p1 = 125)
theorem spR_fr {S' : St} (h : fr [38] [134, 138, 139, 140, 141] S S') (r : spR sh S Y q p1) : spR sh S' Y q p1 := by
  obtain ⟨h1, h2, h3, h4, h5, h6, h7, h8⟩ := r
  have s := h.2.2.2 p1 (by omega) (by simp only [List.mem_cons, List.not_mem_nil, or_false]; omega)
  exact ⟨(h.R 5).trans h1, h2, h3, bkR_fr h (by decide) h3 h4, fun p hp => (h.A (by decide) (by decide) p).trans (h5 p hp), (s.I 1).trans h6, (s.I 2).trans h7, h8⟩
theorem r_sp211 {p : Nat} (hf : 1000 ≤ f) (H : spH S Y ρ0 D0 d) (R : spR sh S Y q p1) (hk : (yHg Y)[k]? = some ρ) (hp : p + 1 < yV Y) (eU : yU Y p = yU Y (p + 1)) (k173 : St → Int32 → Int32 → Int32 → Option (Int32 × St)) : ∀ (g i nf : Nat) (T : St) (V st : List Nat), i + g = yZ Y p → g < nf → k ∈ V → dI S T Y ρ0 D0 d V st c → swC T Y (pS Y p i) → ∃ T' V' st', F_X12_spreads_L211 sh f 94 p1 142 3 0 p4 (I d) k173 nf T l6 (I k) (I p) (I i) = k173 T' l6 (I k) (I ((p + 1 : Nat) : Int)) ∧ dI S T' Y ρ0 D0 d V' st' c ∧ extV V st V' st' ∧ imV Y ρ V' (yG Y (p + 1)) := by
  obtain ⟨ok, rl, rb, hD, hd⟩ := id H
  have L12 := ok.2.2.2.2.2.2.1
  have v3 := ok.2.2.2.1
  have up := ok.2.2.2.2.1 p (by omega)
  have r4 := ok.1.2.1
  have z4 := z34 ok (show p < yV Y by omega)
  have zz : yZ Y (p + 1) = yZ Y p := by
    unfold yZ
    rw [eU]
  have sm : yS Y (p + 2) ≤ yL Y := yS_mono (by omega)
  have e1 : yS Y (p + 1) = yS Y p + yZ Y p := rfl
  have e2 : yS Y (p + 2) = yS Y (p + 1) + yZ Y (p + 1) := rfl
  have z0 : (0 : Int32) + I (p : Int) = I (p : Int) := by rw [show (0 : Int32) = I 0 from rfl, I_add, Int.zero_add]
  intro g
  induction g with
  | zero =>
    intro i nf T V st h1 h2 kV dT sT
    obtain ⟨nf, rfl⟩ : ∃ e, nf = e + 1 := ⟨nf - 1, by omega⟩
    have : i = yZ Y p := by omega
    subst this
    rw [pS_z ok hp eU] at sT
    obtain ⟨r1, r2, r3, r5, r6, _⟩ := spR_fr dT.1 R
    have s6 : sA T (q + 6) (yU Y p) = I (yZ Y p) := (r5.2.2.2 _ up).1
    obtain ⟨W, V', st', w0, w1, w2, w3⟩ := r_reach (sh := sh) hf ok rl.1 rb hD hd dT sT (Or.inr ⟨p + 1, (gns_iff ok).mpr ⟨p, hp, eU, rfl⟩, rfl⟩) kV hk
    rw [F_X12_spreads_L211, r1, Option.bind_some, if_pos r2, z0, I_clN (show p < _ by omega), if_neg (I_bnd (show p < 3 by omega) (by omega)), r6 p (by omega), I_clN (show yU Y p < _ by omega), if_neg (I_bnd (show yU Y p < 4 by omega) (by omega)), s6, if_pos (by rw [I_leN (by omega) (by omega)]; omega), w0, Option.bind_some]
    simp only [bnd, I_suc]
    exact ⟨W, V', st', rfl, w1, w2, w3⟩
  | succ g ih =>
    intro i nf T V st h1 h2 kV dT sT
    obtain ⟨nf, rfl⟩ : ∃ e, nf = e + 1 := ⟨nf - 1, by omega⟩
    obtain ⟨r1, r2, r3, r5, r6, _⟩ := spR_fr dT.1 R
    have rT := rlC_dI H dT
    have s6 : sA T (q + 6) (yU Y p) = I (yZ Y p) := (r5.2.2.2 _ up).1
    have a1 : sA T (94 + 41) p = I (yS Y p) := rT.2.2.2 p (by omega)
    have a2 : sA T (94 + 41) (p + 1) = I (yS Y (p + 1)) := rT.2.2.2 (p + 1) hp
    have i1 : I (yS Y p : Int) + I (i : Int) = I ((yS Y p + i : Nat) : Int) := by rw [I_add]; rfl
    have i2 : I (yS Y (p + 1) : Int) + I (i : Int) = I ((yS Y (p + 1) + i : Nat) : Int) := by rw [I_add]; rfl
    rw [F_X12_spreads_L211, r1, Option.bind_some, if_pos r2, z0, I_clN (show p < _ by omega), if_neg (I_bnd (show p < 3 by omega) (by omega)), r6 p (by omega), I_clN (show yU Y p < _ by omega), if_neg (I_bnd (show yU Y p < 4 by omega) (by omega)), s6, if_neg (by rw [I_leN (by omega) (by omega)]; omega), if_neg (I_bnd (show p < 3 by omega) (by omega)), I_suc p, I_clN (show p + 1 < _ by omega), if_neg (I_bnd (show p + 1 < 3 by omega) (by omega)), a1, a2, i1, i2, I_clN (show yS Y p + i < _ by omega), if_neg (I_bnd (show yS Y p + i < 12 by omega) (by omega))]
    simp only [bnd]
    have b1 : sA (uA T (94 + 46) (yS Y p + i) (I ((yS Y (p + 1) + i : Nat) : Int))) (94 + 41) p = I (yS Y p) := by
      rw [sA_row _ _ _ (by omega)]; exact a1
    have b2 : sA (uA T (94 + 46) (yS Y p + i) (I ((yS Y (p + 1) + i : Nat) : Int))) (94 + 41) (p + 1) = I (yS Y (p + 1)) := by
      rw [sA_row _ _ _ (by omega)]; exact a2
    rw [if_neg (I_bnd (show p + 1 < 3 by omega) (by omega)), if_neg (I_bnd (show p < 3 by omega) (by omega)), b1, b2, i1, i2, I_clN (show yS Y (p + 1) + i < _ by omega), if_neg (I_bnd (show yS Y (p + 1) + i < 12 by omega) (by omega)), I_suc i]
    refine ih (i + 1) nf (uA (uA T 140 (yS Y p + i) (I ((yS Y (p + 1) + i : Nat) : Int))) 140 (yS Y (p + 1) + i) (I ((yS Y p + i : Nat) : Int))) V st (by omega) (by omega) kV (dI_sw dT ((fr.rfl.uA _ _ (by decide)).uA _ _ (by decide))) ?_
    have := swC_up (swC_up sT (yS Y p + i) (yS Y (p + 1) + i)) (yS Y (p + 1) + i) (yS Y p + i)
    rw [pS_s Y p i (by omega)] at this
    exact this
theorem r_sp173 (hf : 1000 ≤ f) (H : spH S Y ρ0 D0 d) (R : spR sh S Y q p1) (hk : (yHg Y)[k]? = some ρ) (k30 : St → Int32 → Option (Int32 × St)) : ∀ (g p nf : Nat) (T : St) (V st : List Nat), p + g = yV Y → g < nf → p < yV Y → k ∈ V → dI S T Y ρ0 D0 d V st c → (∀ x y, yN Y ≤ x → x < y → y < yL Y → yF Y x = yF Y y → imV Y ρ V (sw x y)) → (∀ a, a < p → yU Y a = yU Y (a + 1) → imV Y ρ V (yG Y (a + 1))) → ∃ T' V' st', F_X12_spreads_L173 sh f 94 p1 142 3 0 p4 (I d) k30 nf T l6 (I k) (I p) = k30 T' l6 ∧ dI S T' Y ρ0 D0 d V' st' c ∧ extV V st V' st' ∧ ∀ s, Gn Y s → imV Y ρ V' s := by
  obtain ⟨ok, rl, rb, hD, hd⟩ := id H
  have v3 := ok.2.2.2.1
  have r4 := ok.1.2.1
  intro g
  induction g with
  | zero =>
    intro p nf T V st h1 h2 h3
    omega
  | succ g ih =>
    intro p nf T V st h1 h2 h3 kV dT im ip
    obtain ⟨nf, rfl⟩ : ∃ e, nf = e + 1 := ⟨nf - 1, by omega⟩
    obtain ⟨r1, r2, r3, r5, r6, r7, r8, r9⟩ := spR_fr dT.1 R
    rw [F_X12_spreads_L173, r7, I_suc p, ite_leN (by omega) (by omega)]
    by_cases c1 : yV Y ≤ p + 1
    · rw [if_pos c1]
      refine ⟨T, V, st, rfl, dT, extV.rfl, fun s gs => ?_⟩
      rcases gs with ⟨x, y, a1, a2, a3, a4, rfl⟩ | ⟨g, hg, rfl⟩
      · exact im x y a1 a2 a3 a4
      · obtain ⟨a, b1, b2, rfl⟩ := (gns_iff ok).mp hg
        exact ip a (by omega) b2
    · have z0 : (0 : Int32) + I (p : Int) = I (p : Int) := by rw [show (0 : Int32) = I 0 from rfl, I_add, Int.zero_add]
      have u1 := ok.2.2.2.2.1 p (by omega)
      have u2 := ok.2.2.2.2.1 (p + 1) (by omega)
      rw [if_neg c1, z0, I_clN (show p < _ by omega), if_neg (I_bnd (show p < 3 by omega) (by omega)), I_suc p, I_clN (show p + 1 < _ by omega), if_neg (I_bnd (show p + 1 < 3 by omega) (by omega)), r6 p (by omega), r6 (p + 1) (by omega), ite_eqN (by omega) (by omega)]
      by_cases c2 : yU Y p = yU Y (p + 1)
      · obtain ⟨U, w0, w1, w2⟩ := r_plain (sh := sh) (f := f) hf ok (rlC_dI H dT).1
        rw [if_pos c2, w0, Option.bind_some]
        obtain ⟨W, V', st', x0, x1, x2, x3⟩ := r_sp211 (sh := sh) (p4 := p4) (l6 := l6) hf H R hk (by omega) c2 (F_X12_spreads_L173 sh f 94 p1 142 3 0 p4 (I d) k30 nf) (yZ Y p) 0 f U V st (by omega) (by have := z34 ok h3; omega) kV (dI_sw dT w2) (by rw [pS_0]; exact w1)
        have x0' : F_X12_spreads_L211 sh f 94 p1 142 3 0 p4 (I d) (F_X12_spreads_L173 sh f 94 p1 142 3 0 p4 (I d) k30 nf) f U l6 (I k) (I p) 0 = F_X12_spreads_L173 sh f 94 p1 142 3 0 p4 (I d) k30 nf W l6 (I k) (I ((p + 1 : Nat) : Int)) := x0
        rw [x0']
        obtain ⟨T', V'', st'', t0, t1, t2, t3⟩ := ih (p + 1) nf W V' st' (by omega) (by omega) (by omega) (x2.1 k kV) x1 (fun x y a1 a2 a3 a4 => imV_ext x2 (im x y a1 a2 a3 a4)) (fun a ha e => by
          by_cases q : a = p
          · rw [q]; exact x3
          · exact imV_ext x2 (ip a (by omega) e))
        exact ⟨T', V'', st'', t0, t1, x2.trans t2, t3⟩
      · rw [if_neg c2]
        simp only [bnd]
        exact ih (p + 1) nf T V st (by omega) (by omega) (by omega) kV dT im (fun a ha e => by
          by_cases q : a = p
          · rw [q] at e; exact absurd e c2
          · exact ip a (by omega) e)
end ADa
