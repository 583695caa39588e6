/-! HOW MANY inner joins a row has. -/
section X9x
variable {Y : Ly} {ρ : Nat → Nat}
theorem w_sq (ok : yOk Y) (w : yRw Y ρ) (ne : ∀ i, i < yN Y → yN Y ≤ ρ i) {h : Nat → Nat} (hr : ∀ i, i < yL Y → h (ρ i) = h i) : pd h ((List.range (yL Y)).filter (fun i => decide (yN Y ≤ i))) = pd h (List.range (yN Y)) * (pd h ((List.range (yL Y)).filter (fun i => decide (yN Y ≤ i ∧ i < ρ i))) * pd h ((List.range (yL Y)).filter (fun i => decide (yN Y ≤ i ∧ i < ρ i)))) := by
  have nl := N_le ok
  have inj : ∀ x y, x < yL Y → y < yL Y → ρ x = ρ y → x = y := by
    intro x y hx hy e
    rw [← (yRw_lt w hx).2.1, e, (yRw_lt w hy).2.1]
  generalize hA : (List.range (yL Y)).filter (fun i => decide (yN Y ≤ i)) = A
  have mA : ∀ x, x ∈ A ↔ x < yL Y ∧ yN Y ≤ x := by
    intro x
    rw [← hA, List.mem_filter, List.mem_range, decide_eq_true_eq]
  have nA : A.Nodup := by
    rw [← hA]
    exact List.nodup_range.sublist List.filter_sublist
  rw [pd_split (h) (fun x => decide (ρ x < yN Y)) A]
  generalize hB : A.filter (fun x => !decide (ρ x < yN Y)) = B
  have mB : ∀ x, x ∈ B ↔ x < yL Y ∧ yN Y ≤ x ∧ yN Y ≤ ρ x := by
    intro x
    rw [← hB, List.mem_filter, mA, Bool.not_eq_true', decide_eq_false_iff_not]
    omega
  have nB : B.Nodup := by
    rw [← hB]
    exact nA.sublist List.filter_sublist
  have e1 : pd (h) (A.filter (fun x => decide (ρ x < yN Y))) = pd (h) (List.range (yN Y)) := by
    have p : (A.filter (fun x => decide (ρ x < yN Y))).Perm ((List.range (yN Y)).map ρ) := by
      apply nd_perm (nA.sublist List.filter_sublist)
      · exact nd_map List.nodup_range (fun x y hx hy => inj x y (by have := List.mem_range.mp hx; omega) (by have := List.mem_range.mp hy; omega))
      · intro x
        rw [List.mem_filter, mA, decide_eq_true_eq, List.mem_map]
        constructor
        · rintro ⟨⟨a, b⟩, c⟩
          exact ⟨ρ x, List.mem_range.mpr c, (yRw_lt w a).2.1⟩
        · rintro ⟨y, hy, rfl⟩
          have hy := List.mem_range.mp hy
          have := yRw_lt w (show y < yL Y by omega)
          exact ⟨⟨this.1, ne y hy⟩, by rw [this.2.1]; exact hy⟩
    rw [pd_perm p, pd_map]
    exact pd_cg (fun x hx => hr x (by have := List.mem_range.mp hx; omega))
  rw [e1, pd_split (h) (fun x => decide (x < ρ x)) B]
  have e2 : pd (h) (B.filter (fun x => decide (x < ρ x))) = pd h ((List.range (yL Y)).filter (fun i => decide (yN Y ≤ i ∧ i < ρ i))) := by
    apply pd_perm
    apply nd_perm (nB.sublist List.filter_sublist) (List.nodup_range.sublist List.filter_sublist)
    intro x
    rw [List.mem_filter, mB, List.mem_filter, List.mem_range, decide_eq_true_eq, decide_eq_true_eq]
    omega
  have e3 : pd (h) (B.filter (fun x => !decide (x < ρ x))) = pd h ((List.range (yL Y)).filter (fun i => decide (yN Y ≤ i ∧ i < ρ i))) := by
    rw [← e2]
    have p : (B.filter (fun x => !decide (x < ρ x))).Perm ((B.filter (fun x => decide (x < ρ x))).map ρ) := by
      apply nd_perm (nB.sublist List.filter_sublist)
      · exact nd_map (nB.sublist List.filter_sublist) (fun x y hx hy => inj x y ((mB x).mp (List.mem_filter.mp hx).1).1 ((mB y).mp (List.mem_filter.mp hy).1).1)
      · intro x
        rw [List.mem_filter, mB, Bool.not_eq_true', decide_eq_false_iff_not, List.mem_map]
        constructor
        · rintro ⟨⟨a, b, c⟩, d⟩
          obtain ⟨r1, r2, r3, _⟩ := yRw_lt w a
          refine ⟨ρ x, ?_, r2⟩
          rw [List.mem_filter, mB, decide_eq_true_eq, r2]
          omega
        · rintro ⟨y, hy, rfl⟩
          rw [List.mem_filter, mB, decide_eq_true_eq] at hy
          obtain ⟨⟨a, b, c⟩, d⟩ := hy
          obtain ⟨r1, r2, r3, _⟩ := yRw_lt w a
          rw [r2]
          omega
    rw [pd_perm p, pd_map]
    exact pd_cg (fun x hx => hr x ((mB x).mp (List.mem_filter.mp hx).1).1)
  rw [e2, e3]
theorem pd_two (l : List Nat) : pd (fun _ => 2) l = 2 ^ l.length := by
  induction l with
  | nil => rfl
  | cons x r ih => rw [pd, ih, List.length_cons, Nat.pow_succ, Nat.mul_comm]
theorem cnt_ge (N : Nat) : ∀ d, ((List.range (N + d)).filter (fun i => decide (N ≤ i))).length = d
  | 0 => by
    rw [Nat.add_zero, List.length_eq_zero_iff, List.filter_eq_nil_iff]
    intro x hx
    have := List.mem_range.mp hx
    rw [decide_eq_true_eq]
    omega
  | d + 1 => by
    rw [show N + (d + 1) = N + d + 1 by omega, List.range_succ, List.filter_append, List.length_append, cnt_ge N d, List.filter_cons, if_pos (decide_eq_true (by omega))]
    rfl
/-- inner joins: half of the legs less the ends -/
theorem in_len (ok : yOk Y) (w : yRw Y ρ) (ne : ∀ i, i < yN Y → yN Y ≤ ρ i) : 2 * ((List.range (yL Y)).filter (fun i => decide (yN Y ≤ i ∧ i < ρ i))).length + 2 * yN Y = yL Y := by
  have nl := N_le ok
  have q := w_sq ok w ne (h := fun _ => 2) (fun _ _ => rfl)
  rw [pd_two, pd_two, pd_two, List.length_range, ← Nat.pow_add, ← Nat.pow_add] at q
  have q := p2_inj q
  have c := cnt_ge (yN Y) (yL Y - yN Y)
  rw [show yN Y + (yL Y - yN Y) = yL Y by omega] at c
  omega
theorem hv_le (ok : yOk Y) (w : yRw Y ρ) (ne : ∀ i, i < yN Y → yN Y ≤ ρ i) (n2 : 2 ≤ yN Y) : 1 ≤ hvN Y ρ (yL Y) ∧ hvN Y ρ (yL Y) ≤ 99 ^ 4 := by
  have L12 := ok.2.2.2.2.2.2.1
  have il := in_len ok w ne
  have b : ∀ l : List Nat, 1 ≤ pd (yH Y) l ∧ pd (yH Y) l ≤ 99 ^ l.length := by
    intro l
    induction l with
    | nil => exact ⟨Nat.le_refl _, Nat.le_refl _⟩
    | cons x r ih =>
      have hx := (ok.1.1.2 _ (k_lt ok x)).2.2
      have h1 : 1 ≤ yH Y x := hx.1
      have h2 : yH Y x ≤ 99 := hx.2.1
      rw [pd, List.length_cons, Nat.pow_succ, Nat.mul_comm (99 ^ r.length)]
      exact ⟨Nat.mul_le_mul h1 ih.1, Nat.mul_le_mul h2 ih.2⟩
  rw [hv_pd]
  have := b ((List.range (yL Y)).filter (fun i => decide (yN Y ≤ i ∧ i < ρ i)))
  exact ⟨this.1, Nat.le_trans this.2 (Nat.pow_le_pow_right (by omega) (by omega))⟩
end X9x
