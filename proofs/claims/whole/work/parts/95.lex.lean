/-- the first m legs' partners as the digits of a number -/
def eN (π : Nat → Nat) : Nat → Nat
  | 0 => 0
  | m + 1 => 16 * eN π m + π m
theorem eN_cg {π π' : Nat → Nat} : ∀ {m : Nat}, (∀ i, i < m → π i = π' i) → eN π m = eN π' m
  | 0, _ => rfl
  | m + 1, h => by rw [eN, eN, eN_cg (fun i hi => h i (by omega)), h m (by omega)]
theorem eN_lt {π π' : Nat → Nat} {i : Nat} (hl : π i < π' i) (ha : ∀ k, k < i → π k = π' k) : ∀ {m : Nat}, i < m → (∀ k, k < m → π k < 16) → eN π m < eN π' m
  | 0, h, _ => by omega
  | m + 1, h, h16 => by
    rw [eN, eN]
    by_cases c : i = m
    · subst c
      rw [eN_cg ha]
      omega
    · have := eN_lt hl ha (m := m) (by omega) (fun k hk => h16 k (by omega))
      have := h16 m (by omega)
      omega
theorem eN_tri (π π' : Nat → Nat) : ∀ m : Nat, (∀ k, k < m → π k = π' k) ∨ ∃ i, i < m ∧ π i ≠ π' i ∧ ∀ k, k < i → π k = π' k
  | 0 => Or.inl (fun k hk => by omega)
  | m + 1 => by
    rcases eN_tri π π' m with h | ⟨i, h1, h2, h3⟩
    · by_cases c : π m = π' m
      · left
        intro k hk
        by_cases d : k = m
        · subst d; exact c
        · exact h k (by omega)
      · exact Or.inr ⟨m, by omega, c, h⟩
    · exact Or.inr ⟨i, by omega, h2, h3⟩
theorem eN_inj {π π' : Nat → Nat} {m : Nat} (h1 : ∀ k, k < m → π k < 16) (h2 : ∀ k, k < m → π' k < 16) (e : eN π m = eN π' m) : ∀ k, k < m → π k = π' k := by
  rcases eN_tri π π' m with h | ⟨i, hi, hn, ha⟩
  · exact h
  · rcases Nat.lt_or_ge (π i) (π' i) with c | c
    · have := eN_lt c ha hi h1
      omega
    · have := eN_lt (π := π') (π' := π) (show π' i < π i by omega) (fun k hk => (ha k hk).symm) hi h2
      omega
theorem eN_bd {π : Nat → Nat} : ∀ {m : Nat}, (∀ k, k < m → π k < 16) → eN π m < 16 ^ m
  | 0, _ => by rw [eN]; omega
  | m + 1, h => by
    have a := eN_bd (m := m) (fun k hk => h k (by omega))
    have b := h m (by omega)
    rw [eN, Nat.pow_succ]
    omega
theorem eN_dig {π : Nat → Nat} {i : Nat} : ∀ {m : Nat}, i < m → (∀ k, k < m → π k < 16) → eN π m / 16 ^ (m - 1 - i) % 16 = π i
  | 0, h, _ => by omega
  | m + 1, h, h16 => by
    have b := h16 m (by omega)
    by_cases c : i = m
    · subst c
      rw [show i + 1 - 1 - i = 0 by omega, eN]
      omega
    · have a := eN_dig (m := m) (i := i) (by omega) (fun k hk => h16 k (by omega))
      rw [show m + 1 - 1 - i = (m - 1 - i) + 1 by omega, eN, Nat.pow_succ, Nat.mul_comm (16 ^ _) 16, ← Nat.div_div_eq_div_mul, show (16 * eN π m + π m) / 16 = eN π m by omega]
      exact a
/-- joins between legs alike to a and legs alike to b -/
def jt (fi : Nat → Nat) (l : List Nat) (π : Nat → Nat) (a b : Nat) : Nat := l.countP (fun i => decide (i < π i) && (fi i == a && fi (π i) == b || fi i == b && fi (π i) == a))
theorem jt_tail {kap fo fi : Nat → Nat} {i : Nat} {r : List Nat} {π : Nat → Nat} (nd : (i :: r).Nodup) (w : Rw kap fo (i :: r) π) (a b : Nat) : jt fi (i :: r) π a b = jt fi (r.erase (π i)) π a b + (if fi i = a ∧ fi (π i) = b ∨ fi i = b ∧ fi (π i) = a then 1 else 0) := by
  have h0 := w i (by simp)
  have hj := (Rw_tail nd w).1
  have ne := h0.2.2.1
  unfold jt
  rw [List.countP_cons, (List.perm_cons_erase hj).countP_eq, List.countP_cons, h0.2.1]
  generalize π i = j at *
  simp only [Bool.and_eq_true, Bool.or_eq_true, beq_iff_eq, decide_eq_true_eq]
  by_cases c : i < j
  · simp only [c, true_and, show ¬ j < i by omega, false_and, if_false, Nat.add_zero]
  · simp only [c, false_and, if_false, Nat.add_zero, show j < i by omega, true_and]
    congr 1
    grind
theorem jt_tl {kap fo fi : Nat → Nat} : ∀ (n : Nat) {l : List Nat} {π : Nat → Nat}, l.length ≤ n → l.Nodup → Rw kap fo l π → ∀ a b, tl fi l π a b = (if a = b then 2 * jt fi l π a b else jt fi l π a b)
  | 0, l, π, h1, _, _ => by
    have : l = [] := List.length_eq_zero_iff.mp (by omega)
    subst this
    intro a b
    simp [tl, jt]
  | n + 1, [], π, _, _, _ => by
    intro a b
    simp [tl, jt]
  | n + 1, i :: r, π, h1, nd, w => by
    intro a b
    obtain ⟨hj, wt⟩ := Rw_tail nd w
    have ih := jt_tl (fi := fi) n (l := r.erase (π i)) (π := π) (by rw [List.length_erase_of_mem hj]; simp at h1; omega) ((List.nodup_cons.mp nd).2.erase _) wt a b
    rw [tl_tail nd w, jt_tail nd w, ih]
    by_cases c : a = b
    · subst c
      simp only [if_true]
      by_cases d : fi i = a ∧ fi (π i) = a
      · rw [if_pos d, if_pos d.symm, if_pos (Or.inl d)]; omega
      · rw [if_neg d, if_neg (fun h => d h.symm), if_neg (by rintro (h | h) <;> exact d h)]; omega
    · simp only [if_neg c]
      by_cases d : fi i = a ∧ fi (π i) = b
      · rw [if_pos d, if_neg (fun h => c (d.1.symm.trans h.2)), if_pos (Or.inl d)]
      · by_cases e : fi (π i) = a ∧ fi i = b
        · rw [if_neg d, if_pos e, if_pos (Or.inr ⟨e.2, e.1⟩)]
        · rw [if_neg d, if_neg e, if_neg (by rintro (h | h); exact d h; exact e ⟨h.2, h.1⟩)]
theorem jt_of_tl {kap fo fi fi' : Nat → Nat} {l : List Nat} {π π' : Nat → Nat} (nd : l.Nodup) (w : Rw kap fo l π) (w' : Rw kap fo l π') (h : ∀ a b, tl fi l π a b = tl fi' l π' a b) (a b : Nat) : jt fi l π a b = jt fi' l π' a b := by
  have e1 := jt_tl (fi := fi) l.length (Nat.le_refl _) nd w a b
  have e2 := jt_tl (fi := fi') l.length (Nat.le_refl _) nd w' a b
  rw [h a b, e2] at e1
  by_cases c : a = b
  · rw [if_pos c, if_pos c] at e1; omega
  · rw [if_neg c, if_neg c] at e1; exact e1.symm
theorem tl_of_jt {kap fo fi fi' : Nat → Nat} {l : List Nat} {π π' : Nat → Nat} (nd : l.Nodup) (w : Rw kap fo l π) (w' : Rw kap fo l π') (h : ∀ a b, jt fi l π a b = jt fi' l π' a b) (a b : Nat) : tl fi l π a b = tl fi' l π' a b := by
  have e1 := jt_tl (fi := fi) l.length (Nat.le_refl _) nd w a b
  have e2 := jt_tl (fi := fi') l.length (Nat.le_refl _) nd w' a b
  rw [e1, e2, h]
theorem jt_pos {kap fo fi : Nat → Nat} {l : List Nat} {π : Nat → Nat} (w : Rw kap fo l π) {a b : Nat} : 0 < jt fi l π a b ↔ ∃ x, x ∈ l ∧ fi x = a ∧ fi (π x) = b := by
  unfold jt
  rw [List.countP_pos_iff]
  simp only [Bool.and_eq_true, Bool.or_eq_true, beq_iff_eq, decide_eq_true_eq]
  constructor
  · rintro ⟨x, hx, _, h | h⟩
    · exact ⟨x, hx, h⟩
    · exact ⟨π x, (w x hx).1, h.2, by rw [(w x hx).2.1]; exact h.1⟩
  · rintro ⟨x, hx, h⟩
    by_cases c : x < π x
    · exact ⟨x, hx, c, Or.inl h⟩
    · have := (w x hx).2.2.1
      exact ⟨π x, (w x hx).1, by rw [(w x hx).2.1]; omega, Or.inr ⟨h.2, by rw [(w x hx).2.1]; exact h.1⟩⟩
