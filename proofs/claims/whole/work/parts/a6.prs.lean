/-! FRAMES of the reference's object; PARTIAL ROWS; how many rows there are. -/
def fr (fs cs : List Nat) (S S' : St) : Prop := (∀ j, ¬ j ∈ fs → sI S' 94 j = sI S 94 j) ∧ sJ S' 94 = sJ S 94 ∧ sR S' 94 = sR S 94 ∧ ∀ x, x ≠ 94 → ¬ x ∈ cs → Sm S S' x
theorem fr.rfl {fs cs : List Nat} {S : St} : fr fs cs S S := ⟨fun _ _ => Eq.refl _, Eq.refl _, Eq.refl _, fun _ _ _ => Sm.rfl⟩
theorem fr.trans {fs cs : List Nat} {S S' S'' : St} (h : fr fs cs S S') (g : fr fs cs S' S'') : fr fs cs S S'' := ⟨fun j hj => (g.1 j hj).trans (h.1 j hj), g.2.1.trans h.2.1, g.2.2.1.trans h.2.2.1, fun x h1 h2 => (h.2.2.2 x h1 h2).trans (g.2.2.2 x h1 h2)⟩
theorem fr.mono {fs cs fs' cs' : List Nat} {S S' : St} (h : fr fs cs S S') (a : ∀ j, j ∈ fs → j ∈ fs') (b : ∀ j, j ∈ cs → j ∈ cs') : fr fs' cs' S S' := ⟨fun j hj => h.1 j (fun q => hj (a j q)), h.2.1, h.2.2.1, fun x h1 h2 => h.2.2.2 x h1 (fun q => h2 (b x q))⟩
theorem fr.uI {fs cs : List Nat} {S S' : St} (h : fr fs cs S S') {j : Nat} (x : Int32) (hj : j ∈ fs) : fr fs cs S (uI S' 94 j x) := h.trans ⟨fun i hi => sI_ne _ _ _ (fun e => hi (e ▸ hj)), Eq.refl _, Eq.refl _, fun k hk _ => uI_o hk⟩
theorem fr.uA {fs cs : List Nat} {S S' : St} (h : fr fs cs S S') {k : Nat} (j : Nat) (x : Int32) (hk : k ∈ cs) : fr fs cs S (uA S' k j x) := h.trans ⟨fun _ _ => Eq.refl _, Eq.refl _, Eq.refl _, fun i _ hi => uA_o (fun e => hi (e ▸ hk))⟩
theorem fr.uL {fs cs : List Nat} {S S' : St} (h : fr fs cs S S') {k : Nat} (j : Nat) (x : Int64) (hk : k ∈ cs) : fr fs cs S (uL S' k j x) := h.trans ⟨fun _ _ => Eq.refl _, Eq.refl _, Eq.refl _, fun i _ hi => uL_o (fun e => hi (e ▸ hk))⟩
theorem fr_of {k : Nat} {S S' : St} (hk : k ≠ 94) (h : ∀ x, x ≠ k → Sm S S' x) : fr [] [k] S S' := ⟨fun j _ => (h 94 (Ne.symm hk)).I j, (h 94 (Ne.symm hk)).2.2.2.1, (h 94 (Ne.symm hk)).2.2.2.2, fun x _ hx => h x (fun e => hx (by rw [e]; exact List.mem_singleton.mpr (Eq.refl _)))⟩
theorem fr.I {fs cs : List Nat} {S S' : St} (h : fr fs cs S S') {j : Nat} (hj : ¬ j ∈ fs) : sI S' 94 j = sI S 94 j := h.1 j hj
theorem fr.R {fs cs : List Nat} {S S' : St} (h : fr fs cs S S') (j : Nat) : sR S' 94 j = sR S 94 j := congrFun h.2.2.1 j
theorem fr.A {fs cs : List Nat} {S S' : St} (h : fr fs cs S S') {x : Nat} (h1 : x ≠ 94) (h2 : ¬ x ∈ cs) (i : Nat) : sA S' x i = sA S x i := (h.2.2.2 x h1 h2).A i
theorem rlC_fr {fs cs : List Nat} {S S' : St} {Y : Ly} (h : fr fs cs S S') (r : rlC S Y) (a1 : ¬ 25 ∈ fs) (a2 : ¬ 26 ∈ fs) (b1 : ¬ 132 ∈ cs) (b2 : ¬ 133 ∈ cs) (b3 : ¬ 135 ∈ cs) : rlC S' Y := by
  refine rlC_sm r (fun j hj => ?_) (fun x hx => ?_)
  · rcases hj with rfl | rfl
    · exact h.1 _ a1
    · exact h.1 _ a2
  · rcases hx with rfl | rfl | rfl
    · exact h.2.2.2 _ (by decide) b1
    · exact h.2.2.2 _ (by decide) b2
    · exact h.2.2.2 _ (by decide) b3
/-- how many ways to join 2 k legs two by two -/
def dfc : Nat → Nat
  | 0 => 1
  | k + 1 => (2 * k + 1) * dfc k
theorem fm_len {α β : Type} (g : α → List β) (m : Nat) : ∀ l : List α, (∀ x, x ∈ l → (g x).length ≤ m) → (l.flatMap g).length ≤ l.length * m
  | [], _ => by simp
  | x :: r, h => by
    rw [List.flatMap_cons, List.length_append, List.length_cons, Nat.add_mul, Nat.one_mul]
    have a := h x (by simp)
    have b := fm_len g m r (fun y hy => h y (by simp [hy]))
    omega
theorem lv_len (ok : Nat → Nat → Bool) : ∀ (k : Nat) (l : List Nat) (π : Nat → Nat), l.length = 2 * k → (lv ok k l π).length ≤ dfc k
  | 0, l, π, _ => by rw [lv]; exact Nat.le_refl _
  | k + 1, [], π, h => by simp at h
  | k + 1, i :: r, π, h => by
    rw [lv, dfc]
    rw [List.length_cons] at h
    have hr : r.length = 2 * k + 1 := by omega
    rw [← hr]
    apply fm_len
    intro j hj
    by_cases c : ok i j = true
    · rw [if_pos c]
      exact lv_len ok k (r.erase j) _ (by rw [List.length_erase_of_mem hj]; omega)
    · rw [if_neg c]
      exact Nat.zero_le _
theorem dfc_6 {k : Nat} (h : k ≤ 6) : dfc k ≤ 10395 := by
  have : k = 0 ∨ k = 1 ∨ k = 2 ∨ k = 3 ∨ k = 4 ∨ k = 5 ∨ k = 6 := by omega
  rcases this with rfl | rfl | rfl | rfl | rfl | rfl | rfl <;> decide
/-- joined so far, whatever ends -/
def Pq (Y : Ly) (l : List Nat) (π : Nat → Nat) : Prop := (∀ x, x < yL Y → ¬ x ∈ l → π x < yL Y ∧ ¬ π x ∈ l ∧ π (π x) = x ∧ π x ≠ x ∧ yK Y (π x) = yFo Y (yK Y x)) ∧ ∀ x, ¬ x < yL Y → π x = 99
theorem Pq_step {Y : Ly} {i j : Nat} {r : List Nat} {π : Nat → Nat} (ok : yOk Y) (p : Pq Y (i :: r) π) (hl : ∀ x, x ∈ i :: r → x < yL Y) (nd : (i :: r).Nodup) (hj : j ∈ r) (o : okF (yK Y) (yFo Y) i j = true) : Pq Y (r.erase j) (up1 (up1 π i j) j i) := by
  have ndr : r.Nodup := (List.nodup_cons.mp nd).2
  have nir : ¬ i ∈ r := (List.nodup_cons.mp nd).1
  have hij : i ≠ j := fun e => nir (e ▸ hj)
  have k1 : yK Y j = yFo Y (yK Y i) := by
    unfold okF at o
    exact beq_iff_eq.mp o
  have k2 : yK Y i = yFo Y (yK Y j) := by rw [k1]; exact (y_ff ok i).symm
  have iL := hl i (by simp)
  have jL := hl j (by simp [hj])
  refine ⟨fun x hx hn => ?_, fun x hx => ?_⟩
  · rw [ndr.mem_erase_iff] at hn
    by_cases c1 : x = j
    · subst c1
      have e : up1 (up1 π i x) x i x = i := up1_self _ _ _
      rw [e, up1_ne _ _ hij, up1_self]
      refine ⟨iL, fun h => nir (List.mem_of_mem_erase h), Eq.refl _, hij, k2⟩
    · by_cases c2 : x = i
      · subst c2
        have e : up1 (up1 π x j) j x x = j := by rw [up1_ne _ _ hij, up1_self]
        rw [e, up1_self]
        exact ⟨jL, fun h => ((ndr.mem_erase_iff).mp h).1 (Eq.refl _), Eq.refl _, Ne.symm hij, k1⟩
      · have xr : ¬ x ∈ i :: r := by
          rw [List.mem_cons]
          rintro (h | h)
          · exact c2 h
          · exact hn ⟨c1, h⟩
        obtain ⟨a1, a2, a3, a4, a5⟩ := p.1 x hx xr
        rw [List.mem_cons] at a2
        have e : up1 (up1 π i j) j i x = π x := by rw [up1_ne _ _ c1, up1_ne _ _ c2]
        have n1 : π x ≠ j := fun h => a2 (Or.inr (h ▸ hj))
        have n2 : π x ≠ i := fun h => a2 (Or.inl h)
        rw [e, up1_ne _ _ n1, up1_ne _ _ n2]
        exact ⟨a1, fun h => a2 (Or.inr (List.mem_of_mem_erase h)), a3, a4, a5⟩
  · rw [up1_ne _ _ (by omega), up1_ne _ _ (by omega)]
    exact p.2 x hx
theorem Pq_row {Y : Ly} {π : Nat → Nat} (p : Pq Y [] π) : yRw Y π := by
  intro x hx
  have hx := List.mem_range.mp hx
  obtain ⟨a1, a2, a3, a4, a5⟩ := p.1 x hx (by simp)
  exact ⟨List.mem_range.mpr a1, a3, a4, a5⟩
noncomputable def cnB (Y : Ly) (ρ : Nat → Nat) : Bool := @decide (cn Y ρ) (Classical.propDecidable _)
theorem cnB_iff {Y : Ly} {ρ : Nat → Nat} : cnB Y ρ = true ↔ cn Y ρ := by
  unfold cnB
  exact @decide_eq_true_iff _ (Classical.propDecidable _)
/-- the rows told so far -/
def RA (S : St) (R : List (Nat → Nat)) : Prop := sI S 94 35 = I (R.length : Nat) ∧ ∀ i ρ, R[i]? = some ρ → sL S 137 i = J (e12 ρ) ∧ sA S 138 i = -1
/-- the partners so far -/
def paC (S : St) (Y : Ly) (l : List Nat) (π : Nat → Nat) : Prop := ∀ x, x < yL Y → sA S 134 x = if x ∈ l then -1 else I (π x)
section A6a
variable {sh : List Sh} {f : Nat} {S : St} {Y : Ly} {π : Nat → Nat}
theorem RA_fr {fs cs : List Nat} {S S' : St} {R : List (Nat → Nat)} (h : fr fs cs S S') (r : RA S R) (a : ¬ 35 ∈ fs) (b1 : ¬ 137 ∈ cs) (b2 : ¬ 138 ∈ cs) : RA S' R := ⟨(h.1 _ a).trans r.1, fun i ρ e => ⟨((h.2.2.2 137 (by decide) b1).L i).trans (r.2 i ρ e).1, ((h.2.2.2 138 (by decide) b2).A i).trans (r.2 i ρ e).2⟩⟩
/-- all legs are joined: the row is told if it hangs together -/
theorem r_leaf {R : List (Nat → Nat)} (hf : 1000 ≤ f) (ok : yOk Y) (rl : rlC S Y) (p : Pq Y [] π) (pa : paC S Y [] π) (ra : RA S R) (hR : R.length < 10395) {e p1 : Int32} {kR : St → Nat → Int32 → Option St} : ∃ S', F_X12_pairsFrom_L26 sh f 94 p1 kR S (I (yL Y)) = some S' ∧ fr [35] [134, 136, 137, 138] S S' ∧ (∀ x, sA S' 134 x = sA S 134 x) ∧ RA S' (R ++ [π].filter (cnB Y)) := by
  have L12 := ok.2.2.2.2.2.2.1
  have w := Pq_row p
  have pp : ∀ i, i < yL Y → sA S 134 i = I (π i) ∧ π i < yL Y := by
    intro i hi
    have := pa i hi
    rw [if_neg (by simp)] at this
    exact ⟨this, (yRw_lt w hi).1⟩
  obtain ⟨T, ν, t0, t1, t2, t3, t4⟩ := r_sets (sh := sh) (p1 := (-2 : Int32)) hf ok rl pp
  have fT : fr [35] [134, 136, 137, 138] S T := (fr_of (by decide) t4).mono (by decide) (by decide)
  have cc := cntF_le ν (yN Y + yV Y)
  have n6 := ok.2.1
  have v3 := ok.2.2.2.1
  unfold F_X12_pairsFrom_L26
  rw [rl.1, if_pos rfl, t0, Option.bind_some]
  have q1 : (I (cntF ν (yN Y + yV Y) : Int) ≤ (1 : Int32)) = (cntF ν (yN Y + yV Y) ≤ 1) := I_leN (k := 1) (by omega) (by omega)
  by_cases c : cn Y π
  · have hc := (cnt_cn ok w t2 t3).mpr c
    have rh := r_rowHere (sh := sh) (f := f) (S := T) (ρ := π) hf L12 (((t4 94 (by decide)).I 25).trans rl.1) (fun i hi => ⟨((t4 134 (by decide)).A i).trans (pp i hi).1, by have := (pp i hi).2; omega⟩)
    have pe : prm π (yL Y) = π := by
      funext x
      unfold prm
      by_cases d : x < yL Y
      · rw [if_pos d]
      · rw [if_neg d, p.2 x d]
    rw [pe] at rh
    have T35 : sI T 94 35 = I (R.length : Nat) := ((t4 94 (by decide)).I 35).trans ra.1
    have lcl : (I ((R.length : Nat) : Int)).toNatClampNeg = R.length := I_clN (by omega)
    have nb : ¬ (I ((R.length : Nat) : Int) < 0 ∨ 10395 ≤ R.length) := by
      rw [show (0 : Int32) = I ((0 : Nat) : Int) from rfl, I_ltN (by omega) (by omega)]
      omega
    simp only [q1]
    rw [if_pos hc, rh, Option.bind_some]
    simp only [T35, lcl, if_neg nb, bnd, sI_uL, sI_uA, I_suc, Nat.reduceAdd]
    refine ⟨_, rfl, ((fT.uL _ _ (by decide)).uA _ _ (by decide)).uI _ (by decide), fun x => ?_, ?_, ?_⟩
    · show sA (uA (uL T 137 R.length (J (e12 π))) 138 R.length (-1)) 134 x = _
      rw [sA_row _ _ _ (by decide)]
      exact (t4 134 (by decide)).A x
    · rw [sI_self, List.filter_cons, if_pos (cnB_iff.mpr c), List.filter_nil, List.length_append]
      rfl
    · intro i ρ hi
      rw [List.filter_cons, if_pos (cnB_iff.mpr c), List.filter_nil] at hi
      show sL (uL T 137 R.length (J (e12 π))) 137 i = _ ∧ sA (uA (uL T 137 R.length (J (e12 π))) 138 R.length (-1)) 138 i = _
      rw [sL_uL, if_pos rfl, up1_if, sA_uA, if_pos rfl, up1_if]
      by_cases d : i = R.length
      · subst d
        rw [List.getElem?_append_right (Nat.le_refl _), Nat.sub_self] at hi
        have : π = ρ := by simpa using hi
        rw [if_pos rfl, if_pos rfl, this]
        exact ⟨rfl, rfl⟩
      · have lt : i < R.length := by
          have := (List.getElem?_eq_some_iff.mp hi).1
          rw [List.length_append, List.length_singleton] at this
          omega
        rw [List.getElem?_append_left lt] at hi
        rw [if_neg d, if_neg d]
        obtain ⟨a1, a2⟩ := ra.2 i ρ hi
        exact ⟨((t4 137 (by decide)).L i).trans a1, ((t4 138 (by decide)).A i).trans a2⟩
  · have hc : ¬ cntF ν (yN Y + yV Y) ≤ 1 := fun h => c ((cnt_cn ok w t2 t3).mp h)
    simp only [q1]
    rw [if_neg hc]
    refine ⟨T, rfl, fT, fun x => (t4 134 (by decide)).A x, ?_⟩
    rw [List.filter_cons, if_neg (fun h => c (cnB_iff.mp h)), List.filter_nil, List.append_nil]
    exact RA_fr (fr_of (by decide) t4) ra (by decide) (by decide) (by decide)
end A6a
