/-! SAME: the least of a drawing stands in the list, once. -/
section AXa
variable {Y : Ly} {τ : Nat → Nat}
theorem ex_min {P : Nat → Prop} (h : ∃ n, P n) : ∃ n, P n ∧ ∀ m, m < n → ¬ P m := by
  obtain ⟨n, hn⟩ := h
  induction n using Nat.strongRecOn with
  | ind n ih =>
    by_cases c : ∃ m, m < n ∧ P m
    · obtain ⟨m, h1, h2⟩ := c
      exact ih m h1 h2
    · exact ⟨n, hn, fun m hm hp => c ⟨m, hm, hp⟩⟩
theorem mn_lb (K : Nat) (h0 : K ≤ e12 τ) (h : ∀ s, s < 6 → kpB Y s = true → K ≤ e12 (yLs Y s τ)) : ∀ s, s ≤ 6 → K ≤ mnN Y τ s
  | 0, _ => h0
  | s + 1, hs => by
    have ih := mn_lb K h0 h s (by omega)
    rw [mnN]
    by_cases c : kpB Y s = true
    · have := h s (by omega) c
      rw [if_pos c]; omega
    · rw [if_neg c]; exact ih
theorem mn_ub {s0 : Nat} (k : kpB Y s0 = true) : ∀ s, s0 < s → mnN Y τ s ≤ e12 (yLs Y s0 τ)
  | 0, h => by omega
  | s + 1, h => by
    rw [mnN]
    by_cases e : s0 = s
    · subst e
      rw [if_pos k]; omega
    · have ih := mn_ub k s (by omega)
      by_cases c : kpB Y s = true
      · rw [if_pos c]; omega
      · rw [if_neg c]; exact ih
theorem row16' (ok : yOk Y) {ρ : Nat → Nat} (w : yRw Y ρ) : ∀ i, i < yL Y → ρ i < 16 := fun i hi => by
  have := (yRw_lt w hi).1
  have := ok.2.2.2.2.2.2.1
  omega
/-- the least row of a drawing -/
theorem least_ex (ok : yOk Y) (h : τ ∈ yHg Y) : ∃ σ, σ ∈ yHg Y ∧ yLst Y σ ∧ yEq Y τ σ ∧ e12 σ = mnN Y τ 6 := by
  have L12 := ok.2.2.2.2.2.2.1
  have ev := ok.2.2.2.2.2.2.2
  have G := y_Gp ok
  have nd : (List.range (yL Y)).Nodup := List.nodup_range
  obtain ⟨w, o, c⟩ := (yHg_mem ok).mp h
  obtain ⟨k, hk⟩ := List.getElem?_of_mem h
  obtain ⟨j, ⟨σ, hj, e⟩, mi⟩ := ex_min (P := fun j => ∃ σ, (yHg Y)[j]? = some σ ∧ yEq Y τ σ) ⟨k, τ, hk, Eqv.refl G⟩
  have hs := List.mem_of_getElem? hj
  obtain ⟨w', o', c'⟩ := (yHg_mem ok).mp hs
  have ls : yLst Y σ := (fst_lst ok hj).mpr (fun m υ mj hm e2 => mi m mj ⟨υ, hm, Eqv.trans nd G e (Eqv.symm nd G e2)⟩)
  refine ⟨σ, hs, ls, e, ?_⟩
  have cmp : ∀ {a b : Nat → Nat}, yRw Y a → (∀ i, ¬ i < yL Y → a i = 99) → yRw Y b → (∀ i, ¬ i < yL Y → b i = 99) → (e12 a ≤ e12 b) = (eN a (yL Y) ≤ eN b (yL Y)) := fun wa oa wb ob => (e12_le L12 (row16' ok wa) (fun i hi => oa i (by omega)) (row16' ok wb) (fun i hi => ob i (by omega))).1
  apply Nat.le_antisymm
  · refine mn_lb (e12 σ) ?_ ?_ 6 (Nat.le_refl _)
    · rw [cmp w' o' w o]
      exact ls τ w (Eqv.symm nd G e)
    · intro s s6 ks
      have sP : s ∈ yPP Y := mem_PP.mpr ⟨s6, kpB_iff.mp ks⟩
      obtain ⟨a1, a2, a3, a4⟩ := lst_ok (k := yL Y / 2) (fo := yFo Y) (y_hk ok) (by omega) (by omega) G w sP
      rw [cmp w' o' a1 a3]
      exact ls _ a1 (Eqv.trans nd G (Eqv.symm nd G e) ⟨s, sP, a2⟩)
  · obtain ⟨s, sP, t⟩ := e
    obtain ⟨s6, ks⟩ := mem_PP.mp sP
    obtain ⟨a1, a2, a3, a4⟩ := lst_ok (k := yL Y / 2) (fo := yFo Y) (y_hk ok) (by omega) (by omega) G w sP
    refine Nat.le_trans (mn_ub (kpB_iff.mpr ks) 6 s6) ?_
    rw [cmp a1 a3 w' o']
    exact a4 σ w' t
/-- two least rows of a drawing are one -/
theorem least_one (ok : yOk Y) {a b : Nat → Nat} (ha : a ∈ yHg Y) (hb : b ∈ yHg Y) (la : yLst Y a) (lb : yLst Y b) (e : yEq Y a b) : a = b := by
  have L12 := ok.2.2.2.2.2.2.1
  have G := y_Gp ok
  have nd : (List.range (yL Y)).Nodup := List.nodup_range
  obtain ⟨wa, oa, ca⟩ := (yHg_mem ok).mp ha
  obtain ⟨wb, ob, cb⟩ := (yHg_mem ok).mp hb
  have x := la b wb e
  have y := lb a wa (Eqv.symm nd G e)
  have q := eN_inj (row16' ok wa) (row16' ok wb) (Nat.le_antisymm x y)
  funext i
  by_cases c : i < yL Y
  · exact q i c
  · rw [oa i c, ob i c]
end AXa
section AXb
variable {B : Bk} {n V : Nat} {ek : Nat → Nat}
theorem gls_at : ∀ (c cc : Nat), cc < c → okC B n ek V cc = true → (gls B n ek V c)[(gls B n ek V cc).length]? = some cc := by
  intro c
  induction c with
  | zero => intro cc h; omega
  | succ c ih =>
    intro cc h k
    rw [gls_s]
    by_cases e : cc = c
    · subst e
      rw [if_pos k, List.getElem?_append_right (Nat.le_refl _), Nat.sub_self]
      rfl
    · have := ih cc (by omega) k
      rw [List.getElem?_append_left (List.getElem?_eq_some_iff.mp this).1]
      exact this
theorem gls_nd (c : Nat) : (gls B n ek V c).Nodup := List.nodup_range.sublist List.filter_sublist
theorem nd_ix {l : List Nat} (nd : l.Nodup) {i j x : Nat} (hi : l[i]? = some x) (hj : l[j]? = some x) : i = j := by
  have a := (List.getElem?_eq_some_iff.mp hi).1
  exact (List.getElem?_inj a nd).mp (hi.trans hj.symm)
theorem dls_in : ∀ (c cc : Nat), cc < c → okC B n ek V cc = true → ∀ σ, σ ∈ yHg (yC B n ek V cc) → yLst (yC B n ek V cc) σ → ((gls B n ek V cc).length, yC B n ek V cc, σ) ∈ dls B n ek V c := by
  intro c
  induction c with
  | zero => intro cc h; omega
  | succ c ih =>
    intro cc h k σ hs ls
    have ok := (okC_iff B n ek V).mp k
    rw [dls]
    by_cases e : cc = c
    · subst e
      rw [if_pos k, List.mem_append]
      right
      rw [nwL_hg ok]
      unfold nwL
      rw [List.mem_map]
      exact ⟨σ, List.mem_filter.mpr ⟨hs, kpr_iff.mpr ⟨((yHg_mem ok).mp hs).2.2, ls⟩⟩, rfl⟩
    · have := ih cc (by omega) k σ hs ls
      by_cases q : okC B n ek V c = true
      · rw [if_pos q, List.mem_append]
        exact Or.inl this
      · rw [if_neg q]
        exact this
theorem dls_nd (c : Nat) : (dls B n ek V c).Nodup := by
  induction c with
  | zero => simp [dls]
  | succ c ih =>
    rw [dls]
    by_cases k : okC B n ek V c = true
    · have ok := (okC_iff B n ek V).mp k
      rw [if_pos k, List.nodup_append]
      refine ⟨ih, ?_, ?_⟩
      · unfold nwL
        rw [List.Nodup, List.pairwise_map]
        refine ((yRows_srt ok).sublist List.filter_sublist).imp ?_
        intro a b h e
        have : a = b := congrArg (fun d : Dw => d.2.2) e
        rw [this] at h
        omega
      · intro d hd e he
        have l := dls_lt B n ek V c d hd
        unfold nwL at he
        rw [List.mem_map] at he
        obtain ⟨ρ, _, rfl⟩ := he
        intro q
        rw [q] at l
        simp at l
    · rw [if_neg k]
      exact ih
theorem cd_inj : ∀ V : Fin 4, ∀ a : Fin 64, ∀ b : Fin 64, a.val < 4 ^ V.val → b.val < 4 ^ V.val → (∀ p : Fin 3, p.val < V.val → cdU V.val a.val p.val = cdU V.val b.val p.val) → a = b := by decide +kernel
end AXb
section AXc
variable {sh : List Sh} {f g V i : Nat} {S : St} {X : NS} {d : Dw}
theorem enK_cc {cc : Nat} (v : liV S g X V) (e : enK S g X V i d cc) (hi : (xD X V)[i]? = some d) : cc < 4 ^ V ∧ okC (xB X) (xN X) (xE X) V cc = true ∧ (gls (xB X) (xN X) (xE X) V (4 ^ V))[d.1]? = some cc ∧ d.1 = (gls (xB X) (xN X) (xE X) V cc).length := by
  obtain ⟨c', a1, a2, a3, a4, a5, a6⟩ := dls_get _ d (List.mem_of_getElem? hi)
  have c64 : 4 ^ V ≤ 4 ^ 3 := Nat.pow_le_pow_right (by omega) v.1.2
  have g1 := (v.2.2.2.2.1.2.2 d.1 c' a1).1.1
  have g2 : sA S (g + 8) d.1 = I (cc : Int) := e.2.2.2.2.2.2.2.2.1.1
  have e3 := e.2.2.1
  rw [g1, I_eq (by omega) (by omega)] at g2
  have : c' = cc := by omega
  subst this
  have k := (okC_iff (xB X) (xN X) (xE X) V).mpr a3
  exact ⟨a6, k, a1, nd_ix (gls_nd (4 ^ V)) a1 (gls_at (4 ^ V) c' a6 k)⟩
/-- two entries of one layout that are of one drawing are one -/
theorem en_one {j cc : Nat} {d d' : Dw} (e : enK S g X V i d cc) (e' : enK S g X V j d' cc) (hi : (xD X V)[i]? = some d) (hj : (xD X V)[j]? = some d') (g1 : d'.1 = d.1) {τ : Nat → Nat} (q : yEq d.2.1 d.2.2 τ) (q' : yEq d.2.1 d'.2.2 τ) : i = j := by
  have y : d'.2.1 = d.2.1 := e'.2.2.2.1.trans e.2.2.2.1.symm
  have ok := e.2.2.2.2.1
  have G := y_Gp ok
  have nd : (List.range (yL d.2.1)).Nodup := List.nodup_range
  have m' := e'.2.2.2.2.2.1
  have l' := e'.2.2.2.2.2.2.1
  rw [y] at m' l'
  have r := least_one ok e.2.2.2.2.2.1 m' e.2.2.2.2.2.2.1 l' (Eqv.trans nd G q (Eqv.symm nd G q'))
  have : d = d' := Prod.ext g1.symm (Prod.ext y.symm r)
  subst this
  have a := (List.getElem?_eq_some_iff.mp hi).1
  exact (List.getElem?_inj a (dls_nd (4 ^ V))).mp (hi.trans hj.symm)
end AXc
