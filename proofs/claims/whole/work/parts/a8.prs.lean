section A8a
variable {sh : List Sh} {f q : Nat} {Y : Ly}
theorem r_pf (hf : 1000 ≤ f) (ok : yOk Y) (hq : qOk q) (ck : ckX9 sh q = true) : ∀ (k : Nat) (e : Nat) (l : List Nat) (π : Nat → Nat) (S : St) (R : List (Nat → Nat)) (o : Nat), k < e → l.length = 2 * k → l.Pairwise (· < ·) → (∀ x, x ∈ l → x < yL Y) → (∀ x, x ∈ l → o ≤ x) → o ≤ yL Y → Pq Y l π → pfI sh S Y q → paC S Y l π → RA S R → R.length + (yLv Y k l π).length ≤ 10395 → ∃ S', F_X12_pairsFrom sh f e S 94 (I o) = some S' ∧ fr [35] [134, 136, 137, 138] S S' ∧ paC S' Y l π ∧ RA S' (R ++ (yLv Y k l π).filter (cnB Y)) := by
  have L12 := ok.2.2.2.2.2.2.1
  -- legs that are joined are passed over
  have go : ∀ (e : Nat) (l : List Nat) (π : Nat → Nat) (S : St) (m : Nat) (p1 : Int32), Pq Y l π → rlC S Y → paC S Y l π → m ≤ yL Y → (m < yL Y → m ∈ l) → ∀ (d o nf : Nat), o + d = m → d < nf → (∀ x, x ∈ l → m ≤ x) → F_X12_pairsFrom_L2 sh f 94 p1 (F_X12_pairsFrom sh f e) nf S (I o) = F_X12_pairsFrom_L26 sh f 94 p1 (F_X12_pairsFrom sh f e) S (I m) := by
    intro e l π S m p1 p rl pa hm ml d
    induction d with
    | zero =>
      intro o nf h1 h2 h3
      obtain ⟨nf, rfl⟩ : ∃ e, nf = e + 1 := ⟨nf - 1, by omega⟩
      have : o = m := by omega
      subst this
      rw [F_X12_pairsFrom_L2, rl.1, ite_leN (by omega) (by omega)]
      by_cases c : yL Y ≤ o
      · rw [if_pos c]
      · have t := pa o (by omega)
        rw [if_pos (ml (by omega))] at t
        have t : sA S (94 + 40) o = -1 := t
        rw [if_neg c, I_clN (by omega), if_neg (I_bnd (show o < 12 by omega) (by omega)), t, if_pos rfl]
    | succ d ih =>
      intro o nf h1 h2 h3
      obtain ⟨nf, rfl⟩ : ∃ e, nf = e + 1 := ⟨nf - 1, by omega⟩
      have no : ¬ o ∈ l := fun h => by have := h3 o h; omega
      have t := pa o (by omega)
      rw [if_neg no] at t
      have t : sA S (94 + 40) o = I (π o) := t
      have po := (p.1 o (by omega) no).1
      rw [F_X12_pairsFrom_L2, rl.1, if_neg (by rw [I_leN (by omega) (by omega)]; omega), I_clN (by omega), if_neg (I_bnd (show o < 12 by omega) (by omega)), t, if_neg (I_nn _ (by omega))]
      simp only [bnd, I_suc]
      exact ih (o + 1) nf (by omega) (by omega) h3
  intro k
  induction k with
  | zero =>
    intro e l π S R o he len srt hl ho oL p pf pa ra hR
    obtain ⟨e, rfl⟩ : ∃ x, e = x + 1 := ⟨e - 1, by omega⟩
    have : l = [] := List.length_eq_zero_iff.mp (by omega)
    subst this
    have lvE : yLv Y 0 [] π = [π] := rfl
    rw [lvE] at hR ⊢
    rw [List.length_singleton] at hR
    rw [F_X12_pairsFrom, go e [] π S (yL Y) (I o) p pf.1 pa (Nat.le_refl _) (fun h => by omega) (yL Y - o) o f (by omega) (by omega) (fun x hx => by simp at hx)]
    obtain ⟨S', s0, s1, s2, s3⟩ := r_leaf (sh := sh) (e := 0) (p1 := I o) (kR := F_X12_pairsFrom sh f e) hf ok pf.1 p pa ra (by omega)
    exact ⟨S', s0, s1, fun x hx => (s2 x).trans (pa x hx), s3⟩
  | succ k ih =>
    intro e l π S R o he len srt hl ho oL p pf pa ra hR
    obtain ⟨e, rfl⟩ : ∃ x, e = x + 1 := ⟨e - 1, by omega⟩
    match l, len, srt, hl, ho, p, pa, hR with
    | [], len, _, _, _, _, _, _ => simp at len
    | i :: r, len, srt, hl, ho, p, pa, hR =>
      have iL := hl i (by simp)
      have oi := ho i (by simp)
      have mn : ∀ x, x ∈ i :: r → i ≤ x := by
        intro x hx
        rw [List.mem_cons] at hx
        rcases hx with h | h
        · omega
        · have := (List.pairwise_cons.mp srt).1 x h
          omega
      rw [F_X12_pairsFrom, go e (i :: r) π S i (I o) p pf.1 pa (by omega) (fun _ => by simp) (i - o) o f (by omega) (by omega) mn]
      unfold F_X12_pairsFrom_L26
      rw [pf.1.1, if_neg (by rw [I_eqN (by omega) (by omega)]; omega)]
      simp only [bnd, I_suc]
      refine r_pf83 (e := e) hf ok hq ck len srt hl p pf hR (fun l π S R o a1 a2 a3 a4 a5 a6 a7 a8 a9 a10 => ih e l π S R o (by omega) a1 a2 a3 a4 a5 a6 a7 a8 a9 a10) (yL Y - (i + 1)) (i + 1) f S (by omega) (by omega) (by omega) fr.rfl pa ?_
      have e1 : r.filter (fun x => decide (x < i + 1)) = [] := by
        rw [List.filter_eq_nil_iff]
        intro x hx
        have := (List.pairwise_cons.mp srt).1 x hx
        rw [decide_eq_true_eq]
        omega
      rw [e1, List.flatMap_nil, List.filter_nil, List.append_nil]
      exact ra
/-- all rows of a layout that hang together -/
noncomputable abbrev yHg (Y : Ly) : List (Nat → Nat) := (yRows Y).filter (cnB Y)
theorem r_pairs {S : St} (hf : 1000 ≤ f) (ok : yOk Y) (hq : qOk q) (ck : ckX9 sh q = true) (pf : pfI sh S Y q) : ∃ S', F_X12_pairs sh f S 94 = some S' ∧ fr [35] [134, 136, 137, 138] S S' ∧ RA S' (yHg Y) := by
  have L12 := ok.2.2.2.2.2.2.1
  have ev := ok.2.2.2.2.2.2.2
  have lp : ∀ (d i nf : Nat) (T : St), i + d = 12 → d < nf → fr [35] [134, 136, 137, 138] S T → (∀ x, x < i → sA T 134 x = -1) → ∃ S', F_X12_pairs_L2 sh f 94 nf T (I i) = some S' ∧ fr [35] [134, 136, 137, 138] S S' ∧ RA S' (yHg Y) := by
    intro d
    induction d with
    | zero =>
      intro i nf T h1 h2 fT a
      obtain ⟨nf, rfl⟩ : ∃ e, nf = e + 1 := ⟨nf - 1, by omega⟩
      have : i = 12 := by omega
      subst this
      rw [F_X12_pairs_L2, if_pos (by decide)]
      simp only [bnd]
      have fU : fr [35] [134, 136, 137, 138] S (uI T 94 35 0) := fT.uI _ (by decide)
      obtain ⟨S', s0, s1, s2, s3⟩ := r_pf (sh := sh) (f := f) hf ok hq ck (yL Y / 2) 10 (List.range (yL Y)) (fun _ => 99) (uI T 94 35 0) [] 0 (by omega) (by rw [List.length_range]; omega) (pw_range _) (fun x hx => List.mem_range.mp hx) (fun x _ => by omega) (by omega) ⟨fun x hx hn => absurd (List.mem_range.mpr hx) hn, fun _ _ => rfl⟩ (pfI_fr hq fU pf (by decide) (by decide) (by decide) (by decide) (by decide) (by decide)) (fun x hx => by rw [if_pos (List.mem_range.mpr hx)]; exact a x (by omega)) ⟨sI_self _ _ _ _, fun i ρ h => by simp at h⟩ (by
        have a := lv_len (okF (yK Y) (yFo Y)) (yL Y / 2) (List.range (yL Y)) (fun _ => 99) (by rw [List.length_range]; omega)
        have b := dfc_6 (k := yL Y / 2) (by omega)
        rw [List.length_nil]
        show 0 + (lv (okF (yK Y) (yFo Y)) (yL Y / 2) (List.range (yL Y)) (fun _ => 99)).length ≤ 10395
        omega)
      have s0' : F_X12_pairsFrom sh f 10 (uI T 94 35 0) 94 0 = some S' := s0
      rw [s0', Option.bind_some]
      exact ⟨S', rfl, fU.trans s1, s3⟩
    | succ d ih =>
      intro i nf T h1 h2 fT a
      obtain ⟨nf, rfl⟩ : ∃ e, nf = e + 1 := ⟨nf - 1, by omega⟩
      rw [F_X12_pairs_L2, if_neg (by rw [show (12 : Int32) = I ((12 : Nat) : Int) from rfl, I_leN (by omega) (by omega)]; omega), I_clN (by omega), if_neg (I_bnd (show i < 12 by omega) (by omega))]
      simp only [bnd, I_suc]
      refine ih (i + 1) nf (uA T 134 i (-1)) (by omega) (by omega) (fT.uA _ _ (by decide)) (fun x hx => ?_)
      rw [sA_uA, if_pos rfl, up1_if]
      by_cases c : x = i
      · rw [if_pos c]
      · rw [if_neg c]
        exact a x (by omega)
  unfold F_X12_pairs
  exact lp 12 0 f S (by omega) (by omega) fr.rfl (fun x hx => by omega)
end A8a
