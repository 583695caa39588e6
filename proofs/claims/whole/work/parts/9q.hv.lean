/-! HEAVIES are alike for all rows of a layout. -/
def pd (h : Nat → Nat) : List Nat → Nat
  | [] => 1
  | x :: r => h x * pd h r
theorem pd_app (h : Nat → Nat) (l l' : List Nat) : pd h (l ++ l') = pd h l * pd h l' := by
  induction l with
  | nil => rw [List.nil_append, pd, Nat.one_mul]
  | cons x r ih => rw [List.cons_append, pd, pd, ih, Nat.mul_assoc]
theorem pd_perm {h : Nat → Nat} {l l' : List Nat} (p : l.Perm l') : pd h l = pd h l' := by
  induction p with
  | nil => rfl
  | cons x _ ih => rw [pd, pd, ih]
  | swap x y l => rw [pd, pd, pd, pd, ← Nat.mul_assoc, ← Nat.mul_assoc, Nat.mul_comm (h y)]
  | trans _ _ a b => exact a.trans b
theorem pd_map (h g : Nat → Nat) (l : List Nat) : pd h (l.map g) = pd (fun x => h (g x)) l := by
  induction l with
  | nil => rfl
  | cons x r ih => rw [List.map_cons, pd, pd, ih]
theorem pd_cg {h g : Nat → Nat} {l : List Nat} (e : ∀ x, x ∈ l → h x = g x) : pd h l = pd g l := by
  induction l with
  | nil => rfl
  | cons x r ih => rw [pd, pd, e x (by simp), ih (fun y hy => e y (List.mem_cons_of_mem _ hy))]
theorem pd_pos {h : Nat → Nat} {l : List Nat} (e : ∀ x, x ∈ l → 1 ≤ h x) : 1 ≤ pd h l := by
  induction l with
  | nil => exact Nat.le_refl _
  | cons x r ih =>
    rw [pd]
    exact Nat.mul_le_mul (e x (by simp)) (ih (fun y hy => e y (List.mem_cons_of_mem _ hy)))
theorem pd_split (h : Nat → Nat) (p : Nat → Bool) (l : List Nat) : pd h l = pd h (l.filter p) * pd h (l.filter (fun x => !p x)) := by
  induction l with
  | nil => rfl
  | cons x r ih =>
    rw [pd, ih, List.filter_cons, List.filter_cons]
    cases p x
    · simp only [Bool.false_eq_true, if_false, Bool.not_false, if_true, pd]
      rw [Nat.mul_left_comm]
    · simp only [if_true, Bool.not_true, Bool.false_eq_true, if_false, pd]
      rw [Nat.mul_assoc]
theorem nd_perm {l l' : List Nat} (n : l.Nodup) (n' : l'.Nodup) (m : ∀ x, x ∈ l ↔ x ∈ l') : l.Perm l' := by
  rw [List.perm_iff_count]
  intro x
  rw [n.count, n'.count]
  by_cases c : x ∈ l
  · rw [if_pos c, if_pos ((m x).mp c)]
  · rw [if_neg c, if_neg (fun h => c ((m x).mpr h))]
theorem nd_map {l : List Nat} {g : Nat → Nat} (n : l.Nodup) (inj : ∀ x y, x ∈ l → y ∈ l → g x = g y → x = y) : (l.map g).Nodup := by
  unfold List.Nodup
  rw [List.pairwise_map]
  exact List.Pairwise.imp_of_mem (fun ha hb hne e => hne (inj _ _ ha hb e)) n
section Q9q
variable {Y : Ly} {ρ : Nat → Nat}
def yH (Y : Ly) (i : Nat) : Nat := bH (yB Y) (yK Y i)
theorem hv_pd (m : Nat) : hvN Y ρ m = pd (yH Y) ((List.range m).filter (fun i => decide (yN Y ≤ i ∧ i < ρ i))) := by
  induction m with
  | zero => rfl
  | succ m ih =>
    rw [hvN, List.range_succ, List.filter_append, pd_app, ← ih, List.filter_cons, List.filter_nil]
    by_cases c : yN Y ≤ m ∧ m < ρ m
    · rw [if_pos c, if_pos (decide_eq_true c), pd, pd, Nat.mul_one]
      rfl
    · rw [if_neg c, if_neg (by rw [decide_eq_false c]; decide), pd, Nat.mul_one]
theorem hv_sq (ok : yOk Y) (w : yRw Y ρ) (ne : ∀ i, i < yN Y → yN Y ≤ ρ i) : pd (yH Y) ((List.range (yL Y)).filter (fun i => decide (yN Y ≤ i))) = pd (yH Y) (List.range (yN Y)) * (hvN Y ρ (yL Y) * hvN Y ρ (yL Y)) := by
  have nl := N_le ok
  have hr : ∀ i, i < yL Y → yH Y (ρ i) = yH Y i := by
    intro i hi
    unfold yH
    rw [(yRw_lt w hi).2.2.2]
    exact (ok.1.1.2 _ (k_lt ok i)).2.2.2.2.1
  have inj : ∀ x y, x < yL Y → y < yL Y → ρ x = ρ y → x = y := by
    intro x y hx hy e
    rw [← (yRw_lt w hx).2.1, e, (yRw_lt w hy).2.1]
  generalize hA : (List.range (yL Y)).filter (fun i => decide (yN Y ≤ i)) = A
  have mA : ∀ x, x ∈ A ↔ x < yL Y ∧ yN Y ≤ x := by
    intro x
    rw [← hA, List.mem_filter, List.mem_range, decide_eq_true_eq]
  have nA : A.Nodup := by
    rw [← hA]
    exact List.nodup_range.sublist List.filter_sublist
  rw [pd_split (yH Y) (fun x => decide (ρ x < yN Y)) A]
  generalize hB : A.filter (fun x => !decide (ρ x < yN Y)) = B
  have mB : ∀ x, x ∈ B ↔ x < yL Y ∧ yN Y ≤ x ∧ yN Y ≤ ρ x := by
    intro x
    rw [← hB, List.mem_filter, mA, Bool.not_eq_true', decide_eq_false_iff_not]
    omega
  have nB : B.Nodup := by
    rw [← hB]
    exact nA.sublist List.filter_sublist
  have e1 : pd (yH Y) (A.filter (fun x => decide (ρ x < yN Y))) = pd (yH Y) (List.range (yN Y)) := by
    have p : (A.filter (fun x => decide (ρ x < yN Y))).Perm ((List.range (yN Y)).map ρ) := by
      apply nd_perm (nA.sublist List.filter_sublist)
      · exact nd_map List.nodup_range (fun x y hx hy => inj x y (by have := List.mem_range.mp hx; omega) (by have := List.mem_range.mp hy; omega))
      · intro x
        rw [List.mem_filter, mA, decide_eq_true_eq, List.mem_map]
        constructor
        · rintro ⟨⟨a, b⟩, c⟩
          exact ⟨ρ x, List.mem_range.mpr c, (yRw_lt w a).2.1⟩
        · rintro ⟨y, hy, rfl⟩
          have hy := List.mem_range.mp hy
          have := yRw_lt w (show y < yL Y by omega)
          exact ⟨⟨this.1, ne y hy⟩, by rw [this.2.1]; exact hy⟩
    rw [pd_perm p, pd_map]
    exact pd_cg (fun x hx => hr x (by have := List.mem_range.mp hx; omega))
  rw [e1, pd_split (yH Y) (fun x => decide (x < ρ x)) B]
  have e2 : pd (yH Y) (B.filter (fun x => decide (x < ρ x))) = hvN Y ρ (yL Y) := by
    rw [hv_pd]
    apply pd_perm
    apply nd_perm (nB.sublist List.filter_sublist) (List.nodup_range.sublist List.filter_sublist)
    intro x
    rw [List.mem_filter, mB, List.mem_filter, List.mem_range, decide_eq_true_eq, decide_eq_true_eq]
    omega
  have e3 : pd (yH Y) (B.filter (fun x => !decide (x < ρ x))) = hvN Y ρ (yL Y) := by
    rw [← e2]
    have p : (B.filter (fun x => !decide (x < ρ x))).Perm ((B.filter (fun x => decide (x < ρ x))).map ρ) := by
      apply nd_perm (nB.sublist List.filter_sublist)
      · exact nd_map (nB.sublist List.filter_sublist) (fun x y hx hy => inj x y ((mB x).mp (List.mem_filter.mp hx).1).1 ((mB y).mp (List.mem_filter.mp hy).1).1)
      · intro x
        rw [List.mem_filter, mB, Bool.not_eq_true', decide_eq_false_iff_not, List.mem_map]
        constructor
        · rintro ⟨⟨a, b, c⟩, d⟩
          obtain ⟨r1, r2, r3, _⟩ := yRw_lt w a
          refine ⟨ρ x, ?_, r2⟩
          rw [List.mem_filter, mB, decide_eq_true_eq, r2]
          omega
        · rintro ⟨y, hy, rfl⟩
          rw [List.mem_filter, mB, decide_eq_true_eq] at hy
          obtain ⟨⟨a, b, c⟩, d⟩ := hy
          obtain ⟨r1, r2, r3, _⟩ := yRw_lt w a
          rw [r2]
          omega
    rw [pd_perm p, pd_map]
    exact pd_cg (fun x hx => hr x ((mB x).mp (List.mem_filter.mp hx).1).1)
  rw [e2, e3]
theorem hv_same {ρ' : Nat → Nat} (ok : yOk Y) (w : yRw Y ρ) (ne : ∀ i, i < yN Y → yN Y ≤ ρ i) (w' : yRw Y ρ') (ne' : ∀ i, i < yN Y → yN Y ≤ ρ' i) : hvN Y ρ (yL Y) = hvN Y ρ' (yL Y) := by
  have a := hv_sq ok w ne
  rw [hv_sq ok w' ne'] at a
  have p : 0 < pd (yH Y) (List.range (yN Y)) := pd_pos (fun x _ => (ok.1.1.2 _ (k_lt ok x)).2.2.1)
  exact Nat.mul_self_inj.mp (Nat.eq_of_mul_eq_mul_left p a).symm
end Q9q
