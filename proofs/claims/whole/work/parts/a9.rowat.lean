/-! ROWS are told in ascending order; the reference finds one by halving. -/
section A9a
variable {Y : Ly}
theorem lv_srt (ok : yOk Y) : ∀ (k : Nat) (l : List Nat) (π : Nat → Nat), l.length = 2 * k → l.Pairwise (· < ·) → (yLv Y k l π).Pairwise (fun ρ ρ' => ∃ i, i ∈ l ∧ ρ i < ρ' i ∧ ∀ x, x < i → ρ x = ρ' x) := by
  intro k
  induction k with
  | zero =>
    intro l π _ _
    have e : yLv Y 0 l π = [π] := by
      show lv _ 0 l π = [π]
      rw [lv]
    rw [e]
    exact List.pairwise_singleton _ _
  | succ k ih =>
    intro l π len srt
    match l, len, srt with
    | [], len, _ => simp at len
    | i :: r, len, srt =>
      have lvE : yLv Y (k + 1) (i :: r) π = r.flatMap (fun j => if okF (yK Y) (yFo Y) i j = true then yLv Y k (r.erase j) (up1 (up1 π i j) j i) else []) := rfl
      have nd : (i :: r).Nodup := srt.imp (fun h => by omega)
      have ndr : r.Nodup := (List.nodup_cons.mp nd).2
      have nir : ¬ i ∈ r := (List.nodup_cons.mp nd).1
      have srr : r.Pairwise (· < ·) := (List.pairwise_cons.mp srt).2
      rw [List.length_cons] at len
      have val : ∀ j, j ∈ r → ∀ ρ, ρ ∈ (if okF (yK Y) (yFo Y) i j = true then yLv Y k (r.erase j) (up1 (up1 π i j) j i) else []) → ρ i = j ∧ ∀ x, x < i → ρ x = π x := by
        intro j hj ρ hm
        by_cases c : okF (yK Y) (yFo Y) i j = true
        · rw [if_pos c] at hm
          have len' : (r.erase j).length = 2 * k := by
            rw [List.length_erase_of_mem hj]
            omega
          obtain ⟨w, out⟩ := (lv_mem (y_ff ok) k _ _ _ len' (ndr.erase _)).mp hm
          have hij : i < j := (List.pairwise_cons.mp srt).1 j hj
          refine ⟨by rw [out i (fun h => nir (List.mem_of_mem_erase h)), up1_ne _ _ (by omega), up1_self], fun x hx => ?_⟩
          rw [out x (fun h => by have := (List.pairwise_cons.mp srt).1 x (List.mem_of_mem_erase h); omega), up1_ne _ _ (by omega), up1_ne _ _ (by omega)]
        · rw [if_neg c] at hm
          simp at hm
      rw [lvE, List.pairwise_flatMap]
      constructor
      · intro j hj
        by_cases c : okF (yK Y) (yFo Y) i j = true
        · rw [if_pos c]
          refine (ih (r.erase j) _ (by rw [List.length_erase_of_mem hj]; omega) (srr.sublist List.erase_sublist)).imp ?_
          rintro ρ ρ' ⟨x, hx, h⟩
          exact ⟨x, by simp [List.mem_of_mem_erase hx], h⟩
        · rw [if_neg c]
          exact List.Pairwise.nil
      · refine srr.imp_of_mem ?_
        intro j j' hj hj' lt ρ hρ ρ' hρ'
        obtain ⟨a1, a2⟩ := val j hj ρ hρ
        obtain ⟨b1, b2⟩ := val j' hj' ρ' hρ'
        exact ⟨i, by simp, by rw [a1, b1]; exact lt, fun x hx => by rw [a2 x hx, b2 x hx]⟩
theorem yRows_mem (ok : yOk Y) {ρ : Nat → Nat} : ρ ∈ yRows Y ↔ yRw Y ρ ∧ ∀ i, ¬ i < yL Y → ρ i = 99 := by
  have ev := ok.2.2.2.2.2.2.2
  have := lv_mem (fo := yFo Y) (y_ff ok) (yL Y / 2) (List.range (yL Y)) (fun _ => 99) ρ (by rw [List.length_range]; omega) List.nodup_range
  rw [this]
  constructor
  · rintro ⟨a, b⟩
    exact ⟨a, fun i hi => b i (by rw [List.mem_range]; exact hi)⟩
  · rintro ⟨a, b⟩
    exact ⟨a, fun i hi => b i (by rw [List.mem_range] at hi; exact hi)⟩
theorem yHg_mem (ok : yOk Y) {ρ : Nat → Nat} : ρ ∈ yHg Y ↔ yRw Y ρ ∧ (∀ i, ¬ i < yL Y → ρ i = 99) ∧ cn Y ρ := by
  rw [List.mem_filter, yRows_mem ok, cnB_iff, and_assoc]
theorem yRows_srt (ok : yOk Y) : (yRows Y).Pairwise (fun ρ ρ' => e12 ρ < e12 ρ') := by
  have ev := ok.2.2.2.2.2.2.2
  have L12 := ok.2.2.2.2.2.2.1
  refine (lv_srt ok (yL Y / 2) (List.range (yL Y)) (fun _ => 99) (by rw [List.length_range]; omega) (pw_range _)).imp_of_mem ?_
  rintro ρ ρ' h h' ⟨i, hi, lt, eq⟩
  have hi := List.mem_range.mp hi
  have w := (yRows_mem ok).mp h
  have w' := (yRows_mem ok).mp h'
  have a := (yRw_lt w.1 hi).1
  have b := (yRw_lt w'.1 hi).1
  refine eN_lt (i := i) ?_ ?_ (by omega) (fun k _ => zz_lt ρ k)
  · unfold zz
    rw [if_pos (by omega), if_pos (by omega)]
    exact lt
  · intro k hk
    unfold zz
    rw [eq k hk]
theorem yHg_srt (ok : yOk Y) : (yHg Y).Pairwise (fun ρ ρ' => e12 ρ < e12 ρ') := (yRows_srt ok).sublist List.filter_sublist
theorem yHg_len (ok : yOk Y) : (yHg Y).length ≤ 10395 := by
  have L12 := ok.2.2.2.2.2.2.1
  have ev := ok.2.2.2.2.2.2.2
  have a := lv_len (okF (yK Y) (yFo Y)) (yL Y / 2) (List.range (yL Y)) (fun _ => 99) (by rw [List.length_range]; omega)
  have b := dfc_6 (k := yL Y / 2) (by omega)
  have c := List.length_filter_le (cnB Y) (yRows Y)
  show ((yRows Y).filter (cnB Y)).length ≤ 10395
  have d : (yRows Y).length ≤ dfc (yL Y / 2) := a
  omega
/-- a row is told by its number -/
theorem e12_inj (ok : yOk Y) {ρ ρ' : Nat → Nat} (h : ρ ∈ yRows Y) (h' : ρ' ∈ yRows Y) (e : e12 ρ = e12 ρ') : ρ = ρ' := by
  have L12 := ok.2.2.2.2.2.2.1
  have w := (yRows_mem ok).mp h
  have w' := (yRows_mem ok).mp h'
  have q := eN_inj (fun k _ => zz_lt ρ k) (fun k _ => zz_lt ρ' k) e
  funext x
  by_cases c : x < yL Y
  · have a := (yRw_lt w.1 c).1
    have b := (yRw_lt w'.1 c).1
    have := q x (by omega)
    unfold zz at this
    rw [if_pos (by omega), if_pos (by omega)] at this
    exact this
  · rw [w.2 x c, w'.2 x c]
end A9a
section A9b
variable {sh : List Sh} {f : Nat} {S : St} {n : Nat} {a : Nat → Nat}
theorem r_rowAt10 (h : ∀ i, i < n → sL S 137 i = J (a i)) (a63 : ∀ i, i < n → a i < 9223372036854775808) (mo : ∀ i j, i < j → j < n → a i < a j) (hn : n ≤ 10395) {v : Nat} (hv : v < 9223372036854775808) {r : Int32} (hr : (∃ m, m < n ∧ a m = v ∧ r = I m) ∨ (∀ m, m < n → a m ≠ v) ∧ r = -1) : ∀ (c lo hi nf : Nat), hi < lo + 2 ^ c → c < nf → lo ≤ hi → hi ≤ n → (∀ i, i < lo → a i < v) → (∀ i, hi ≤ i → i < n → v < a i) → F_X12_rowAt_L10 sh f S 94 (J v) nf (I lo) (I ((hi : Int) - 1)) = some r := by
  have ext : ∀ lo hi, hi ≤ lo → lo ≤ hi → hi ≤ n → (∀ i, i < lo → a i < v) → (∀ i, hi ≤ i → i < n → v < a i) → r = -1 := by
    intro lo hi h1 h2 h3 h4 h5
    rcases hr with ⟨m, m1, m2, _⟩ | ⟨_, e⟩
    · exfalso
      by_cases q : m < lo
      · have := h4 m q; omega
      · have := h5 m (by omega) m1; omega
    · exact e
  intro c
  induction c with
  | zero =>
    intro lo hi nf h1 h2 h3 h4 h5 h6
    obtain ⟨nf, rfl⟩ : ∃ e, nf = e + 1 := ⟨nf - 1, by omega⟩
    rw [F_X12_rowAt_L10, if_pos (by rw [I_lt (by omega) (by omega)]; omega), ext lo hi (by omega) h3 h4 h5 h6]
  | succ c ih =>
    intro lo hi nf h1 h2 h3 h4 h5 h6
    obtain ⟨nf, rfl⟩ : ∃ e, nf = e + 1 := ⟨nf - 1, by omega⟩
    rw [Nat.pow_succ] at h1
    rw [F_X12_rowAt_L10]
    by_cases q : hi ≤ lo
    · rw [if_pos (by rw [I_lt (by omega) (by omega)]; omega), ext lo hi q h3 h4 h5 h6]
    · rw [if_neg (by rw [I_lt (by omega) (by omega)]; omega)]
      generalize hm : (lo + hi - 1) / 2 = m
      have e1 : (I (lo : Int) + I ((hi : Int) - 1)) / 2 = I (m : Int) := by
        rw [I_add, show (2 : Int32) = I 2 from rfl, I_div (by omega) (by omega)]
        congr 1
        omega
      have mn : m < n := by omega
      have nb : ¬ (I (m : Int) < 0 ∨ 10395 ≤ m) := by
        rw [show (0 : Int32) = I ((0 : Nat) : Int) from rfl, I_ltN (by omega) (by omega)]
        omega
      have am := a63 m mn
      have hL : sL S (94 + 43) m = J (a m) := h m mn
      rw [e1]
      simp only [bnd]
      rw [I_clN (by omega), if_neg nb, hL]
      have q0 : (lg_cmp (J (a m)) (J v) = 0) = (a m = v) := by
        rw [lgc, J_eq (by omega) (by omega)]
        exact propext ⟨fun h => by omega, fun h => by omega⟩
      have q1 : (0 ≤ lg_cmp (J (a m)) (J v)) = (v ≤ a m) := by
        have := lgc_lt am hv
        rw [← I_nlt, this]
        exact propext ⟨fun h => by omega, fun h => by omega⟩
      simp only [q0, q1]
      by_cases d : a m = v
      · rw [if_pos d]
        rcases hr with ⟨k, k1, k2, e⟩ | ⟨k, _⟩
        · have : k = m := by
            rcases Nat.lt_trichotomy k m with g | g | g
            · have := mo k m g mn; omega
            · exact g
            · have := mo m k g k1; omega
          rw [e, this]
        · exact absurd d (k m mn)
      · rw [if_neg d, if_neg nb]
        by_cases g : v ≤ a m
        · rw [if_pos g]
          have e2 : I (m : Int) - 1 = I ((m : Int) - 1) := by rw [show (1 : Int32) = I 1 from rfl, I_sub]
          rw [e2]
          refine ih lo m nf (by omega) (by omega) (by omega) (by omega) h5 (fun i i1 i2 => ?_)
          by_cases k : i = m
          · rw [k]; omega
          · have := mo m i (by omega) i2; omega
        · rw [if_neg g, I_suc]
          refine ih (m + 1) hi nf (by omega) (by omega) (by omega) h4 (fun i hi => ?_) h6
          by_cases k : i = m
          · rw [k]; omega
          · have := mo i m (by omega) mn; omega
theorem r_rowAtG (hf : 1000 ≤ f) (h35 : sI S 94 35 = I (n : Int)) (h : ∀ i, i < n → sL S 137 i = J (a i)) (a63 : ∀ i, i < n → a i < 9223372036854775808) (mo : ∀ i j, i < j → j < n → a i < a j) (hn : n ≤ 10395) {v : Nat} (hv : v < 9223372036854775808) {r : Int32} (hr : (∃ m, m < n ∧ a m = v ∧ r = I m) ∨ (∀ m, m < n → a m ≠ v) ∧ r = -1) : F_X12_rowAt sh f S 94 (J v) = some r := by
  unfold F_X12_rowAt
  rw [h35, show (1 : Int32) = I 1 from rfl, I_sub]
  simp only [bnd]
  have p : (2 : Nat) ^ 14 = 16384 := by decide
  exact r_rowAt10 h a63 mo hn hv hr 14 0 n f (by omega) (by omega) (by omega) (Nat.le_refl _) (fun i hi => by omega) (fun i h1 h2 => by omega)
/-- the rows' numbers stand there -/
def RB (S : St) (R : List (Nat → Nat)) : Prop := sI S 94 35 = I (R.length : Nat) ∧ ∀ i ρ, R[i]? = some ρ → sL S 137 i = J (e12 ρ)
theorem RB_fr {fs cs : List Nat} {S S' : St} {R : List (Nat → Nat)} (h : fr fs cs S S') (r : RB S R) (a : ¬ 35 ∈ fs) (b1 : ¬ 137 ∈ cs) : RB S' R := ⟨(h.1 _ a).trans r.1, fun i ρ e => ((h.2.2.2 137 (by decide) b1).L i).trans (r.2 i ρ e)⟩
theorem r_rowAt {Y : Ly} (hf : 1000 ≤ f) (ok : yOk Y) (rb : RB S (yHg Y)) {v : Nat} (hv : v < 9223372036854775808) {r : Int32} (hr : (∃ (m : Nat) (ρ : Nat → Nat), (yHg Y)[m]? = some ρ ∧ e12 ρ = v ∧ r = I m) ∨ (∀ ρ, ρ ∈ yHg Y → e12 ρ ≠ v) ∧ r = -1) : F_X12_rowAt sh f S 94 (J v) = some r := by
  have g : ∀ i, i < (yHg Y).length → ∃ ρ, (yHg Y)[i]? = some ρ ∧ ((yHg Y).getD i (fun _ => 0)) = ρ := by
    intro i hi
    exact ⟨(yHg Y)[i], List.getElem?_eq_getElem hi, by rw [List.getD_eq_getElem?_getD, List.getElem?_eq_getElem hi]; rfl⟩
  refine r_rowAtG (n := (yHg Y).length) (a := fun i => e12 ((yHg Y).getD i (fun _ => 0))) hf rb.1 (fun i hi => ?_) (fun i hi => ?_) (fun i j ij hj => ?_) (yHg_len ok) hv ?_
  · obtain ⟨ρ, e1, e2⟩ := g i hi
    simp only [e2]
    exact rb.2 i ρ e1
  · have := e12_lt ((yHg Y).getD i (fun _ => 0))
    show e12 ((yHg Y).getD i (fun _ => 0)) < _
    omega
  · obtain ⟨ρ, e1, e2⟩ := g i (by omega)
    obtain ⟨ρ', e1', e2'⟩ := g j hj
    simp only [e2, e2']
    have := List.pairwise_iff_getElem.mp (yHg_srt ok) i j (by omega) hj ij
    rw [List.getElem?_eq_getElem (by omega)] at e1
    rw [List.getElem?_eq_getElem hj] at e1'
    rw [← Option.some.inj e1, ← Option.some.inj e1']
    exact this
  · rcases hr with ⟨m, ρ, h1, h2, h3⟩ | ⟨h1, h2⟩
    · have ml := (List.getElem?_eq_some_iff.mp h1).1
      obtain ⟨ρ', e1, e2⟩ := g m ml
      left
      refine ⟨m, ml, ?_, h3⟩
      simp only [e2]
      rw [h1] at e1
      rw [← Option.some.inj e1]
      exact h2
    · right
      refine ⟨fun m hm => ?_, h2⟩
      obtain ⟨ρ', e1, e2⟩ := g m hm
      simp only [e2]
      exact h1 ρ' (List.mem_of_getElem? e1)
end A9b
