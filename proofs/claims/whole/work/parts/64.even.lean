section E64
variable {sh : List Sh} {f : Nat} {S : St} {b u : Nat} {B : Bk}
def evB (B : Bk) (g : Nat → Nat) (n : Nat) : Prop := sumM B g n = 0 ∧ sumH B g n % 2 = 0
theorem sumM_bd {g : Nat → Nat} (hM : ∀ i, i < u → -9 ≤ bM B i ∧ bM B i ≤ 9) : ∀ n, (∀ j, j < n → g j < u) → -9 * (n : Int) ≤ sumM B g n ∧ sumM B g n ≤ 9 * (n : Int)
  | 0, _ => ⟨by rw [sumM]; omega, by rw [sumM]; omega⟩
  | n + 1, h => by
    have a := sumM_bd hM n (fun j hj => h j (by omega))
    have b := hM (g n) (h n (by omega))
    rw [sumM]
    constructor
    · push_cast; omega
    · push_cast; omega
theorem sumH_le {g : Nat → Nat} : ∀ n, sumH B g n ≤ n
  | 0 => Nat.le_refl _
  | n + 1 => by
    have a : sumH B g n ≤ n := sumH_le n
    rw [sumH]
    by_cases c : bS B (g n) = 2
    · rw [if_pos c]; omega
    · rw [if_neg c]; omega
theorem c_isHalf {i : Nat} (h : bkU S b B u) (hk : bK B ≤ 8) (hu : u ≤ bK B) (hS : ∀ i, i < u → bS B i ≤ 2) (hi : i < u) : F_X0_isHalf sh f S b (I i) = some (if bS B i = 2 then 1 else 0) := by
  have c1 : ¬ I i < 0 := by rw [show (0 : Int32) = I 0 from rfl, I_lt (by omega) (by omega)]; omega
  have c2 : ¬ sI S b 9 ≤ I i := by rw [h.1, I_leN (by omega) (by omega)]; omega
  have cl : (I i).toNatClampNeg = i := I_clN (by omega)
  have c3 : ¬ (I i < 0 ∨ 8 ≤ i) := by
    rintro (c | c)
    · exact c1 c
    · omega
  have s := hS i hi
  have q : (sA S (b + 5) i = 2) = (bS B i = 2) := by rw [(h.2.2.1 i hi).2.2.2]; exact I_eqN (b := 2) (by omega) (by omega)
  simp only [F_X0_isHalf, F_X0_hasKind, if_neg c1, if_neg c2, Option.bind_some, if_neg i10, cl, if_neg c3, q]
  by_cases c : bS B i = 2
  · rw [if_pos c, if_pos c]
  · rw [if_neg c, if_neg c]
theorem c_even0 {p1 n1 a n : Nat} {g : Nat → Nat} (h : bkU S b B u) (hk : bK B ≤ 8) (hu : u ≤ bK B) (hM : ∀ i, i < u → -9 ≤ bM B i ∧ bM B i ≤ 9) (hS : ∀ i, i < u → bS B i ≤ 2) (hn : a + n ≤ n1) (hn1 : n1 ≤ 16) (hg : ∀ j, j < n → g j < u ∧ sA S p1 (a + j) = I (g j)) : ∀ (r j nf : Nat), j + r = n → r < nf → F_X0_areEven_L9 sh f S b p1 n1 (I a) (I n) nf (I (sumM B g j)) (I (sumH B g j)) (I ((a + j : Nat) : Int)) = some (if sumM B g n = 0 ∧ sumH B g n % 2 = 0 then 1 else 0) := by
  intro r
  induction r with
  | zero =>
    intro j nf h1 h2
    obtain ⟨nf, rfl⟩ : ∃ e, nf = e + 1 := ⟨nf - 1, by omega⟩
    have : j = n := by omega
    subst this
    have bd := sumM_bd hM j (fun i hi => (hg i hi).1)
    have bh := sumH_le (B := B) (g := g) j
    have c1 : I a + I j ≤ I ((a + j : Nat) : Int) := by rw [I_add, I_le (by omega) (by omega)]; omega
    have q1 : (I (sumM B g j) = 0) = (sumM B g j = 0) := by rw [show (0 : Int32) = I 0 from rfl, I_eq (by omega) (by omega)]
    have q2 : (I ((sumH B g j : Nat) : Int) - I ((sumH B g j : Nat) : Int) / 2 * 2 = 0) = (sumH B g j % 2 = 0) := by
      rw [show (2 : Int32) = I 2 from rfl, show (0 : Int32) = I 0 from rfl, I_div (by omega) (by omega), I_mul, I_sub, I_eq (by omega) (by omega)]
      exact propext ⟨fun h => by omega, fun h => by omega⟩
    rw [F_X0_areEven_L9, if_pos c1]
    simp only [q1, q2]
    by_cases c3 : sumM B g j = 0
    · by_cases c4 : sumH B g j % 2 = 0
      · simp only [if_pos c3, if_pos c4, c3, c4, and_self, if_true]
      · simp only [if_pos c3, if_neg c4, if_neg (fun h : sumM B g j = 0 ∧ sumH B g j % 2 = 0 => c4 h.2)]
    · simp only [if_neg c3, if_neg (fun h : sumM B g j = 0 ∧ sumH B g j % 2 = 0 => c3 h.1)]
  | succ r ih =>
    intro j nf h1 h2
    obtain ⟨nf, rfl⟩ : ∃ e, nf = e + 1 := ⟨nf - 1, by omega⟩
    obtain ⟨g1, g2⟩ := hg j (by omega)
    have c1 : ¬ I a + I n ≤ I ((a + j : Nat) : Int) := by rw [I_add, I_le (by omega) (by omega)]; omega
    have c2 : ¬ Int32.ofNat n1 ≤ I ((a + j : Nat) : Int) := by
      rw [show Int32.ofNat n1 = I (n1 : Int) from Int32.ofInt_eq_ofNat.symm, I_leN (by omega) (by omega)]; omega
    have c3 : ¬ I ((a + j : Nat) : Int) < 0 := by rw [show (0 : Int32) = I 0 from rfl, I_lt (by omega) (by omega)]; omega
    have cl : (I ((a + j : Nat) : Int)).toNatClampNeg = a + j := I_clN (by omega)
    have c4 : ¬ (I ((a + j : Nat) : Int) < 0 ∨ n1 ≤ a + j) := by
      rintro (c | c)
      · exact c3 c
      · omega
    have d1 : ¬ I (g j : Int) < 0 := by rw [show (0 : Int32) = I 0 from rfl, I_lt (by omega) (by omega)]; omega
    have d2 : ¬ sI S b 9 ≤ I (g j : Int) := by rw [h.1, I_leN (by omega) (by omega)]; omega
    have dl : (I (g j : Int)).toNatClampNeg = g j := I_clN (by omega)
    have d3 : ¬ (I (g j : Int) < 0 ∨ 8 ≤ g j) := by
      rintro (c | c)
      · exact d1 c
      · omega
    have mk := (h.2.2.1 (g j) g1).2.2.1
    have ih' := ih (j + 1) nf (by omega) (by omega)
    rw [F_X0_areEven_L9, if_neg c1, if_neg c2, if_neg c3]
    simp only [cl, if_neg c4, g2, F_X0_hasKind, if_neg d1, if_neg d2, Option.bind_some, if_neg i10, dl, if_neg d3, mk, bnd, c_isHalf h hk hu hS g1]
    rw [sumM, sumH] at ih'
    by_cases ch : bS B (g j) = 2
    · rw [if_pos ch] at ih' ⊢
      rw [if_neg i10, show (1 : Int32) = I 1 from rfl, I_add, I_add, I_add]
      exact ih'
    · rw [if_neg ch] at ih' ⊢
      rw [if_pos rfl, show (0 : Int32) = I 0 from rfl, show (1 : Int32) = I 1 from rfl, I_add, I_add, I_add, Int.add_zero]
      exact ih'
theorem c_even {p1 n1 a n : Nat} {g : Nat → Nat} (hf : 1000 ≤ f) (h : bkU S b B u) (hk : bK B ≤ 8) (hu : u ≤ bK B) (hM : ∀ i, i < u → -9 ≤ bM B i ∧ bM B i ≤ 9) (hS : ∀ i, i < u → bS B i ≤ 2) (hn : a + n ≤ n1) (hn1 : n1 ≤ 16) (hg : ∀ j, j < n → g j < u ∧ sA S p1 (a + j) = I (g j)) : F_X0_areEven sh f S b p1 n1 (I a) (I n) = some (if sumM B g n = 0 ∧ sumH B g n % 2 = 0 then 1 else 0) :=
  c_even0 h hk hu hM hS hn hn1 hg n 0 f (by omega) (by omega)
/-- the kinds seen, as bits -/
def msk (g : Nat → Nat) : Nat → Int32
  | 0 => 0
  | j + 1 => msk g j ||| ((1 : Int32) <<< (I (g j) &&& 31))
theorem bit_ne : ∀ a b : Fin 8, (((1 : Int32) <<< (I (a.val : Int) &&& 31)) &&& ((1 : Int32) <<< (I (b.val : Int) &&& 31)) = 0) = (a ≠ b) := by decide +kernel
theorem bit_ne' {a b : Nat} (ha : a < 8) (hb : b < 8) : (((1 : Int32) <<< (I a &&& 31)) &&& ((1 : Int32) <<< (I b &&& 31)) = 0) = (a ≠ b) := by
  have h := bit_ne ⟨a, ha⟩ ⟨b, hb⟩
  rw [h]
  exact propext ⟨fun h e => h (Fin.ext e), fun h e => h (congrArg Fin.val e)⟩
theorem msk_and {g : Nat → Nat} {k : Nat} (hk : k < 8) : ∀ j, (∀ i, i < j → g i < 8) → ((msk g j &&& ((1 : Int32) <<< (I k &&& 31)) = 0) = ∀ i, i < j → g i ≠ k)
  | 0, _ => by
    rw [msk]
    exact propext ⟨fun _ i hi => by omega, fun _ => by
      apply Int32.toBitVec_inj.mp
      rw [Int32.toBitVec_and]
      exact BitVec.zero_and⟩
  | j + 1, h => by
    have ih := msk_and (g := g) hk j (fun i hi => h i (by omega))
    have e : msk g (j + 1) &&& ((1 : Int32) <<< (I k &&& 31)) = (msk g j &&& ((1 : Int32) <<< (I k &&& 31))) ||| (((1 : Int32) <<< (I (g j) &&& 31)) &&& ((1 : Int32) <<< (I k &&& 31))) := by
      apply Int32.toBitVec_inj.mp
      rw [msk, Int32.toBitVec_and, Int32.toBitVec_or, Int32.toBitVec_or, Int32.toBitVec_and, Int32.toBitVec_and]
      ext i hi
      simp only [BitVec.getElem_and, BitVec.getElem_or]
      exact Bool.and_or_distrib_right _ _ _
    have o : ∀ x y : Int32, (x ||| y = 0) = (x = 0 ∧ y = 0) := by
      intro x y
      refine propext ⟨fun h => ?_, fun h => by rw [h.1, h.2]; decide⟩
      have h' := congrArg Int32.toBitVec h
      rw [Int32.toBitVec_or] at h'
      have h2 := BitVec.or_eq_zero_iff.mp h'
      exact ⟨Int32.toBitVec_inj.mp h2.1, Int32.toBitVec_inj.mp h2.2⟩
    rw [e, o, ih, bit_ne' (h j (by omega)) hk]
    exact propext ⟨fun a i hi => by
      by_cases c : i = j
      · rw [c]; exact a.2
      · exact a.1 i (by omega), fun a => ⟨fun i hi => a i (by omega), a j (by omega)⟩⟩
end E64
