/-! SIGNS: by joins from the lowest on, and by crossings. -/
def pmN (n : Nat) : Int := if n % 2 = 0 then 1 else -1
theorem pmN_s (n : Nat) : pmN (n + 1) = - pmN n := by
  unfold pmN
  by_cases c : n % 2 = 0
  · rw [if_pos c, if_neg (by omega)]
  · rw [if_neg c, if_pos (by omega)]
    rfl
theorem pmN_2 {a b : Nat} (h : a % 2 = b % 2) : pmN a = pmN b := by
  unfold pmN
  rw [h]
def Zp (t : Nat → Int) : Nat → Int
  | 0 => 1
  | m + 1 => Zp t m * t m
theorem Zp_cg {t u : Nat → Int} : ∀ {m : Nat}, (∀ i, i < m → t i = u i) → Zp t m = Zp u m
  | 0, _ => rfl
  | m + 1, h => by rw [Zp, Zp, Zp_cg (fun i hi => h i (by omega)), h m (by omega)]
theorem ev_inv {l : List Nat} {ρ : Nat → Nat} (nd : l.Nodup) (h : ∀ x, x ∈ l → ρ x ∈ l ∧ ρ (ρ x) = x ∧ ρ x ≠ x) : l.length % 2 = 0 := by
  have p : (l.filter (fun x => !decide (x < ρ x))).Perm ((l.filter (fun x => decide (x < ρ x))).map ρ) := by
    apply nd_perm (nd.sublist List.filter_sublist)
    · exact nd_map (nd.sublist List.filter_sublist) (fun x y hx hy e => by
        have a := (h x (List.mem_filter.mp hx).1).2.1
        have b := (h y (List.mem_filter.mp hy).1).2.1
        rw [← a, e, b])
    · intro x
      rw [List.mem_filter, Bool.not_eq_true', decide_eq_false_iff_not, List.mem_map]
      constructor
      · rintro ⟨hx, hn⟩
        obtain ⟨a, b, c⟩ := h x hx
        refine ⟨ρ x, List.mem_filter.mpr ⟨a, decide_eq_true ?_⟩, b⟩
        rw [b]
        omega
      · rintro ⟨y, hy, rfl⟩
        obtain ⟨h1, h2⟩ := List.mem_filter.mp hy
        have h2 := of_decide_eq_true h2
        obtain ⟨a, b, c⟩ := h y h1
        exact ⟨a, by rw [b]; omega⟩
  have s := pd_split (fun _ => 2) (fun x => decide (x < ρ x)) l
  rw [pd_two, pd_two, pd_two, ← Nat.pow_add] at s
  have s := p2_inj s
  have e := p.length_eq
  rw [List.length_map] at e
  omega
section ALa
variable {Y : Ly} {ρ : Nat → Nat}
def lmS (Y : Ly) (ρ : Nat → Nat) (m : Nat) : List Nat := (List.range (yL Y)).filter (fun x => decide (m ≤ x ∧ m ≤ ρ x))
def tlS (Y : Ly) (ρ : Nat → Nat) (m : Nat) : List Nat := (List.range (yL Y)).filter (fun x => decide (m < x ∧ m ≤ ρ x))
theorem mem_lm {m x : Nat} : x ∈ lmS Y ρ m ↔ x < yL Y ∧ m ≤ x ∧ m ≤ ρ x := by
  unfold lmS
  rw [List.mem_filter, List.mem_range, decide_eq_true_eq]
theorem mem_tl {m x : Nat} : x ∈ tlS Y ρ m ↔ x < yL Y ∧ m < x ∧ m ≤ ρ x := by
  unfold tlS
  rw [List.mem_filter, List.mem_range, decide_eq_true_eq]
theorem srt_eq {l l' : List Nat} (h : l.Pairwise (· < ·)) (h' : l'.Pairwise (· < ·)) (m : ∀ x, x ∈ l ↔ x ∈ l') : l = l' := by
  have nd : l.Nodup := h.imp (fun h => by omega)
  have nd' : l'.Nodup := h'.imp (fun h => by omega)
  exact (nd_perm nd nd' m).eq_of_pairwise (le := (· < ·)) (fun a b _ _ h1 h2 => by omega) h h'
theorem lm_pw (m : Nat) : (lmS Y ρ m).Pairwise (· < ·) := (pw_range _).sublist List.filter_sublist
theorem tl_pw (m : Nat) : (tlS Y ρ m).Pairwise (· < ·) := (pw_range _).sublist List.filter_sublist
theorem lm_c {m : Nat} (hm : m < yL Y) (h : m < ρ m) : lmS Y ρ m = m :: tlS Y ρ m := by
  apply srt_eq (lm_pw m)
  · rw [List.pairwise_cons]
    exact ⟨fun x hx => (mem_tl.mp hx).2.1, tl_pw m⟩
  · intro x
    rw [List.mem_cons, mem_lm, mem_tl]
    constructor
    · rintro ⟨a, b, c⟩
      by_cases e : x = m
      · exact Or.inl e
      · exact Or.inr ⟨a, by omega, c⟩
    · rintro (rfl | ⟨a, b, c⟩)
      · exact ⟨hm, by omega, by omega⟩
      · exact ⟨a, by omega, c⟩
theorem lm_e (w : yRw Y ρ) {m : Nat} (hm : m < yL Y) (h : m < ρ m) : (tlS Y ρ m).erase (ρ m) = lmS Y ρ (m + 1) := by
  have nd : (tlS Y ρ m).Nodup := (tl_pw m).imp (fun h => by omega)
  apply srt_eq ((tl_pw m).sublist List.erase_sublist) (lm_pw (m + 1))
  intro x
  rw [nd.mem_erase_iff, mem_tl, mem_lm]
  constructor
  · rintro ⟨a, b, c, d⟩
    refine ⟨b, by omega, ?_⟩
    have : ρ x ≠ m := fun e => a (by rw [← (yRw_lt w b).2.1, e])
    omega
  · rintro ⟨a, b, c⟩
    refine ⟨fun e => ?_, a, by omega, by omega⟩
    rw [e, (yRw_lt w hm).2.1] at c
    omega
theorem lm_n (w : yRw Y ρ) {m : Nat} (hm : m < yL Y) (h : ¬ m < ρ m) : lmS Y ρ m = lmS Y ρ (m + 1) := by
  have r := yRw_lt w hm
  apply srt_eq (lm_pw m) (lm_pw (m + 1))
  intro x
  rw [mem_lm, mem_lm]
  constructor
  · rintro ⟨a, b, c⟩
    have e1 : x ≠ m := fun e => by rw [e] at c; omega
    have e2 : ρ x ≠ m := fun e => by
      have : x = ρ m := by rw [← (yRw_lt w a).2.1, e]
      omega
    exact ⟨a, by omega, by omega⟩
  · rintro ⟨a, b, c⟩
    exact ⟨a, by omega, by omega⟩
def tZS (Y : Ly) (ρ : Nat → Nat) (i : Nat) : Int := if i < ρ i then sgN Y i (ρ i) (mkb (inl (tlS Y ρ i)) (yL Y)) else 1
theorem sgL_Z (w : yRw Y ρ) : ∀ (d m k : Nat), m + d = yL Y → (lmS Y ρ m).length = 2 * k → Zp (tZS Y ρ) m * sgL Y ρ k (lmS Y ρ m) = Zp (tZS Y ρ) (yL Y) := by
  intro d
  induction d with
  | zero =>
    intro m k h1 h2
    have : m = yL Y := by omega
    subst this
    have e : lmS Y ρ (yL Y) = [] := by
      apply List.eq_nil_iff_forall_not_mem.mpr
      intro x hx
      have := mem_lm.mp hx
      omega
    rw [e, List.length_nil] at h2
    have : k = 0 := by omega
    subst this
    rw [sgL, Int.mul_one]
  | succ d ih =>
    intro m k h1 h2
    have hm : m < yL Y := by omega
    by_cases c : m < ρ m
    · rw [lm_c hm c, List.length_cons] at h2
      obtain ⟨k, rfl⟩ : ∃ x, k = x + 1 := ⟨k - 1, by omega⟩
      have rm : ρ m ∈ tlS Y ρ m := mem_tl.mpr ⟨(yRw_lt w hm).1, c, by rw [(yRw_lt w hm).2.1]; omega⟩
      have ih' := ih (m + 1) k (by omega) (by rw [← lm_e w hm c, List.length_erase_of_mem rm]; omega)
      rw [lm_c hm c, sgL, lm_e w hm c, ← Int.mul_assoc]
      have e : Zp (tZS Y ρ) m * sgN Y m (ρ m) (mkb (inl (tlS Y ρ m)) (yL Y)) = Zp (tZS Y ρ) (m + 1) := by
        rw [Zp]
        unfold tZS
        rw [if_pos c]
      rw [e]
      exact ih'
    · have ih' := ih (m + 1) k (by omega) (by rw [← lm_n w hm c]; exact h2)
      have e : Zp (tZS Y ρ) (m + 1) = Zp (tZS Y ρ) m := by
        rw [Zp]
        have : tZS Y ρ m = 1 := by
          unfold tZS
          rw [if_neg c]
        rw [this, Int.mul_one]
      rw [lm_n w hm c, ← e]
      exact ih'
/-- joins of half legs that cross the one of i, up to the leg k -/
def cxN (Y : Ly) (ρ : Nat → Nat) (i k : Nat) : Nat := (List.range k).countP (fun x => decide (i < x) && (yHa Y x && decide (ρ i < ρ x)))
def uS (Y : Ly) (ρ : Nat → Nat) (i : Nat) : Int := if yHa Y i = true ∧ i < ρ i then pmN (cxN Y ρ i (ρ i) + (if ySe Y i = true then 1 else 0)) else 1
theorem yHa_r (ok : yOk Y) (w : yRw Y ρ) {i : Nat} (hi : i < yL Y) : yHa Y (ρ i) = yHa Y i := by
  unfold yHa
  rw [(yRw_lt w hi).2.2.2, (ok.1.1.2 _ (k_lt ok i)).2.2.2.2.2.2.2.2.2.1]
theorem len_sp (p : Nat → Bool) : ∀ l : List Nat, l.length = (l.filter p).length + (l.filter (fun x => !p x)).length
  | [] => rfl
  | x :: r => by
    have ih := len_sp p r
    rw [List.filter_cons, List.filter_cons, List.length_cons]
    by_cases c : p x = true
    · rw [if_pos c, if_neg (by simp [c]), List.length_cons]
      omega
    · rw [if_neg c, if_pos (by simp [c]), List.length_cons]
      omega
theorem tZ_uS (ok : yOk Y) (w : yRw Y ρ) {i : Nat} (hi : i < yL Y) : tZS Y ρ i = uS Y ρ i := by
  have r := yRw_lt w hi
  unfold tZS uS sgN
  by_cases c : i < ρ i
  · rw [if_pos c]
    by_cases h : yHa Y i = true
    · rw [if_pos h, if_pos (show yHa Y i = true ∧ i < ρ i from ⟨h, c⟩)]
      show pmN _ = pmN _
      apply pmN_2
      have key : ((List.range (ρ i)).countP (fun x => (mkb (inl (tlS Y ρ i)) (yL Y)).testBit x && yHa Y x)) % 2 = cxN Y ρ i (ρ i) % 2 := by
        have e1 : (List.range (ρ i)).countP (fun x => (mkb (inl (tlS Y ρ i)) (yL Y)).testBit x && yHa Y x) = ((List.range (ρ i)).filter (fun x => decide (i < x ∧ i ≤ ρ x) && yHa Y x)).length := by
          rw [← List.countP_eq_length_filter]
          apply countP_cg
          intro x hx
          have hx := List.mem_range.mp hx
          congr 1
          rw [mkb_tb]
          unfold inl
          rw [decide_eq_true (show x < yL Y by omega), Bool.true_and, decide_eq_decide, mem_tl]
          omega
        generalize hA : (List.range (ρ i)).filter (fun x => decide (i < x ∧ i ≤ ρ x) && yHa Y x) = A at e1
        have mA : ∀ x, x ∈ A ↔ x < ρ i ∧ i < x ∧ i ≤ ρ x ∧ yHa Y x = true := by
          intro x
          rw [← hA, List.mem_filter, List.mem_range, Bool.and_eq_true, decide_eq_true_eq]
          constructor
          · rintro ⟨a, ⟨b, c⟩, d⟩; exact ⟨a, b, c, d⟩
          · rintro ⟨a, b, c, d⟩; exact ⟨a, ⟨b, c⟩, d⟩
        have nA : A.Nodup := by
          rw [← hA]
          exact List.nodup_range.sublist List.filter_sublist
        rw [e1, len_sp (fun x => decide (ρ i < ρ x)) A]
        have e2 : (A.filter (fun x => decide (ρ i < ρ x))).length = cxN Y ρ i (ρ i) := by
          unfold cxN
          rw [List.countP_eq_length_filter, ← hA, List.filter_filter]
          congr 1
          apply List.filter_congr
          intro x hx
          rw [Bool.eq_iff_iff]
          simp only [Bool.and_eq_true, decide_eq_true_eq]
          constructor
          · rintro ⟨a, ⟨b, _⟩, d⟩; exact ⟨b, d, a⟩
          · rintro ⟨a, b, d⟩; exact ⟨d, ⟨a, by omega⟩, b⟩
        have e3 : (A.filter (fun x => !decide (ρ i < ρ x))).length % 2 = 0 := by
          apply ev_inv (ρ := ρ) (nA.sublist List.filter_sublist)
          intro x hx
          rw [List.mem_filter, mA, Bool.not_eq_true', decide_eq_false_iff_not] at hx
          obtain ⟨⟨a, b, d, e⟩, g⟩ := hx
          obtain ⟨r1, r2, r3, _⟩ := yRw_lt w (show x < yL Y by omega)
          have n1 : ρ x ≠ i := fun q => by rw [q] at r2; omega
          have n2 : ρ x ≠ ρ i := fun q => by
            have := r.2.1
            rw [← q, r2] at this
            omega
          refine ⟨?_, r2, r3⟩
          rw [List.mem_filter, mA, Bool.not_eq_true', decide_eq_false_iff_not, r2, yHa_r ok w (by omega)]
          exact ⟨⟨by omega, by omega, by omega, e⟩, by omega⟩
        omega
      by_cases s : ySe Y i = true
      · rw [if_pos s]; omega
      · rw [if_neg s]; omega
    · rw [if_neg h, if_neg (fun q => h q.1)]
  · rw [if_neg c, if_neg (fun q => c q.2)]
theorem sg_eq (ok : yOk Y) (w : yRw Y ρ) : sgR Y ρ = Zp (uS Y ρ) (yL Y) := by
  have ev := ok.2.2.2.2.2.2.2
  have e : lmS Y ρ 0 = List.range (yL Y) := by
    unfold lmS
    rw [List.filter_eq_self]
    intro x _
    exact decide_eq_true ⟨by omega, by omega⟩
  have := sgL_Z w (yL Y) 0 (yL Y / 2) (by omega) (by rw [e, List.length_range]; omega)
  rw [e, Zp, Int.one_mul] at this
  unfold sgR
  rw [this]
  exact Zp_cg (fun i hi => tZ_uS ok w hi)
end ALa
