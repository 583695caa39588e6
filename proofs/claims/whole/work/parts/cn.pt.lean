/-! PARTS: ends of a side, and one more. -/
section CNa
/-- how many, which, and their sum -/
def spc (b : Nat → Bool) : Nat → Nat
  | 0 => 0
  | i + 1 => if b i = true then spc b i + 1 else spc b i
def spf {α : Type} (b : Nat → Bool) (g : Nat → α) (z : α) : Nat → Nat → α
  | 0 => fun _ => z
  | i + 1 => if b i = true then up1 (spf b g z i) (spc b i) (g i) else spf b g z i
def sps (b : Nat → Bool) (nu : Nat → Int) : Nat → Int
  | 0 => 0
  | i + 1 => if b i = true then sps b nu i + nu i else sps b nu i
def ptN (b : Nat → Bool) (n : Nat) : Nat := spc b n + 1
def ptK (b : Nat → Bool) (ek : Nat → Nat) (n kd : Nat) : Nat → Nat := up1 (spf b ek 0 n) (spc b n) kd
def ptU (b : Nat → Bool) (nu : Nat → Int) (n : Nat) : Nat → Int := up1 (spf b nu 0 n) (spc b n) (-(sps b nu n))
theorem spc_le (b : Nat → Bool) : ∀ n, spc b n ≤ n
  | 0 => Nat.le_refl _
  | n + 1 => by
    have := spc_le b n
    rw [spc]
    by_cases c : b n = true
    · rw [if_pos c]; omega
    · rw [if_neg c]; omega
theorem spc_mono (b : Nat → Bool) : ∀ d i, spc b i ≤ spc b (i + d)
  | 0, _ => Nat.le_refl _
  | d + 1, i => by
    have := spc_mono b d i
    rw [← Nat.add_assoc, spc]
    by_cases c : b (i + d) = true
    · rw [if_pos c]; omega
    · rw [if_neg c]; omega
theorem spc_not (b : Nat → Bool) : ∀ n, spc b n + spc (fun i => !(b i)) n = n
  | 0 => rfl
  | n + 1 => by
    have := spc_not b n
    rw [spc, spc]
    cases c : b n
    · rw [if_neg (by decide), if_pos (by decide)]; omega
    · rw [if_pos rfl, if_neg (by decide)]; omega
theorem spf_P {α : Type} {b : Nat → Bool} {g : Nat → α} {z : α} {P : α → Prop} : ∀ n, (∀ i, i < n → P (g i)) → ∀ i, i < spc b n → P (spf b g z n i)
  | 0, _, i, h => by rw [spc] at h; omega
  | n + 1, hg, i, h => by
    rw [spc] at h
    rw [spf]
    by_cases c : b n = true
    · rw [if_pos c] at h
      rw [if_pos c, up1_if]
      by_cases e : i = spc b n
      · rw [if_pos e]; exact hg n (by omega)
      · rw [if_neg e]; exact spf_P n (fun i hi => hg i (by omega)) i (by omega)
    · rw [if_neg c] at h
      rw [if_neg c]
      exact spf_P n (fun i hi => hg i (by omega)) i h
theorem sumE_cg {u v : Nat → Int} : ∀ n, (∀ i, i < n → u i = v i) → sumE u n = sumE v n
  | 0, _ => rfl
  | n + 1, h => by rw [sumE, sumE, sumE_cg n (fun i hi => h i (by omega)), h n (by omega)]
theorem sps_sum (b : Nat → Bool) (nu : Nat → Int) : ∀ n, sumE (spf b nu 0 n) (spc b n) = sps b nu n
  | 0 => rfl
  | n + 1 => by
    rw [spc, spf, sps]
    by_cases c : b n = true
    · rw [if_pos c, if_pos c, if_pos c, sumE, up1_self, sumE_cg (v := spf b nu 0 n) _ (fun i hi => up1_ne _ _ (by omega)), sps_sum b nu n]
    · rw [if_neg c, if_neg c, if_neg c, sps_sum b nu n]
theorem sps_b (b : Nat → Bool) (nu : Nat → Int) : ∀ n, (∀ i, i < n → -999 ≤ nu i ∧ nu i ≤ 999) → -999 * (spc b n : Int) ≤ sps b nu n ∧ sps b nu n ≤ 999 * (spc b n : Int)
  | 0, _ => by rw [spc, sps]; omega
  | n + 1, h => by
    have a := sps_b b nu n (fun i hi => h i (by omega))
    have c' := h n (by omega)
    rw [spc, sps]
    by_cases c : b n = true
    · rw [if_pos c, if_pos c]; omega
    · rw [if_neg c, if_neg c]; exact a
theorem ptK_lt {b : Nat → Bool} {ek : Nat → Nat} {n kd K : Nat} (h : ∀ i, i < n → ek i < K) (hk : kd < K) : ∀ i, i < ptN b n → ptK b ek n kd i < K := fun i hi => by
  unfold ptN at hi
  unfold ptK
  rw [up1_if]
  by_cases e : i = spc b n
  · rw [if_pos e]; exact hk
  · rw [if_neg e]; exact spf_P (P := fun x => x < K) n h i (by omega)
theorem ptU_b {b : Nat → Bool} {nu : Nat → Int} {n : Nat} (h : ∀ i, i < n → -999 ≤ nu i ∧ nu i ≤ 999) (c : spc b n ≤ 4) : nuB (ptU b nu n) (ptN b n) := fun i hi => by
  unfold ptN at hi
  unfold ptU
  rw [up1_if]
  have s := sps_b b nu n h
  by_cases e : i = spc b n
  · rw [if_pos e]; omega
  · rw [if_neg e]
    have := spf_P (z := 0) (b := b) (P := fun x : Int => -999 ≤ x ∧ x ≤ 999) n h i (by omega)
    omega
/-- the side, as bits -/
def sB (s i : Nat) : Bool := decide (¬ s / 2 ^ i % 2 = 0)
theorem spc_pop (s : Nat) : ∀ n, spc (sB s) n = popN n s
  | 0 => rfl
  | n + 1 => by
    rw [spc, popN_succ, spc_pop s n]
    unfold sB
    by_cases c : s / 2 ^ n % 2 = 0
    · rw [if_neg (by simp [c]), c]
      omega
    · rw [if_pos (by simp only [decide_eq_true_iff]; exact c)]
      omega
theorem far_sd : ∀ n : Fin 7, ∀ s : Fin 64, s.val < 2 ^ n.val → (((1 : Int32) <<< (I (n.val : Int) &&& 31)) - 1) &&& (I (s.val : Int) ^^^ (-1)) = I ((2 ^ n.val - 1 - s.val : Nat) : Int) := by decide +kernel
theorem far_bt : ∀ n : Fin 7, ∀ s : Fin 64, ∀ i : Fin 6, s.val < 2 ^ n.val → i.val < n.val → ((2 ^ n.val - 1 - s.val) / 2 ^ i.val % 2 = 0 ↔ ¬ s.val / 2 ^ i.val % 2 = 0) := by decide +kernel
theorem nr_b {s i : Nat} (hs : s < 64) (hi : i < 6) : ((I (s : Int) >>> (I (i : Int) &&& 31)) &&& 1 = 0) = (sB s i = false) := by
  rw [(bit_z (show s < 2147483648 by omega) (show i < 32 by omega)).1]
  unfold sB
  rw [decide_eq_false_iff_not, Classical.not_not]
theorem fr_b {n s i : Nat} (hn : n ≤ 6) (hs : s < 64) (h2 : s < 2 ^ n) (hi : i < n) : (((((1 : Int32) <<< (I (n : Int) &&& 31)) - 1) &&& (I (s : Int) ^^^ (-1))) >>> (I (i : Int) &&& 31) &&& 1 = 0) = ((!(sB s i)) = false) := by
  have p6 : 2 ^ n ≤ 2 ^ 6 := Nat.pow_le_pow_right (by omega) hn
  rw [far_sd ⟨n, by omega⟩ ⟨s, hs⟩ h2, (bit_z (show 2 ^ n - 1 - s < 2147483648 by omega) (show i < 32 by omega)).1]
  have := far_bt ⟨n, by omega⟩ ⟨s, hs⟩ ⟨i, by omega⟩ h2 hi
  unfold sB
  rw [Bool.not_eq_false', decide_eq_true_iff]
  exact propext this
end CNa
section CNb
variable {sh : List Sh} {f : Nat} {S T : St} {t c : Nat} {k : Nat → Nat} {u : Nat → Int}
/-- ends that a cell tells -/
def enA (S : St) (t c : Nat) (k : Nat → Nat) (u : Nat → Int) : Prop := sI S t 2 = I c ∧ ∀ i, i < c → sA S (t + 1) i = I (k i) ∧ sA S (t + 2) i = I (u i)
theorem enA_sm (h : enA S t c k u) (F : ∀ x, t ≤ x → x ≤ t + 2 → Sm S T x) : enA T t c k u := ⟨((F t (by omega) (by omega)).I 2).trans h.1, fun i hi => ⟨((F (t + 1) (by omega) (by omega)).A i).trans (h.2 i hi).1, ((F (t + 2) (by omega) (by omega)).A i).trans (h.2 i hi).2⟩⟩
theorem enA_up (h : enA S t c k u) (x : Nat) (y : Int) : enA (uI (uA (uA S (t + 1) c (I x)) (t + 2) c (I y)) t 2 (I ((c + 1 : Nat) : Int))) t (c + 1) (up1 k c x) (up1 u c y) := by
  refine ⟨sI_self _ _ _ _, fun i hi => ⟨?_, ?_⟩⟩
  · show sA (uA (uA S (t + 1) c (I x)) (t + 2) c (I y)) (t + 1) i = _
    rw [sA_row _ _ _ (by omega), sA_uA, if_pos rfl, up1_if, up1_if]
    by_cases e : i = c
    · rw [if_pos e, if_pos e]
    · rw [if_neg e, if_neg e]; exact (h.2 i (by omega)).1
  · show sA (uA (uA S (t + 1) c (I x)) (t + 2) c (I y)) (t + 2) i = _
    rw [sA_uA, if_pos rfl, up1_if, up1_if, sA_row _ _ _ (by omega)]
    by_cases e : i = c
    · rw [if_pos e, if_pos e]
    · rw [if_neg e, if_neg e]; exact (h.2 i (by omega)).2
theorem c_ad1 (h : enA S t c k u) (hc : c < 6) (x : Nat) (y : Int) : ∃ S', F_X1_add sh f S t (I x) (I y) = some S' ∧ enA S' t (c + 1) (up1 k c x) (up1 u c y) ∧ ∀ z, z ≠ t → z ≠ t + 1 → z ≠ t + 2 → Sm S S' z := by
  refine ⟨_, ?_, enA_up h x y, fun z a b d => (by repeat' (first | exact Sm.rfl | (refine Sm.uI ?_ (by omega)) | (refine Sm.uA ?_ (by omega)) | (refine Sm.uJ ?_ (by omega)) | (refine Sm.uL ?_ (by omega)) | (refine Sm.uR ?_ (by omega))))⟩
  have nb : ¬ (I (c : Int) < 0 ∨ 6 ≤ c) := I_bnd hc (by omega)
  unfold F_X1_add
  rw [h.1, if_neg (by rw [show (6 : Int32) = I ((6 : Nat) : Int) from rfl, I_leN (by omega) (by omega)]; omega), I_clN (show c < _ by omega), if_neg nb, bnd_e, sI_uA, h.1, I_clN (show c < _ by omega), if_neg nb, bnd_e, sI_uA, sI_uA, h.1, bnd_e, I_suc]
/-- the reference's parts -/
theorem r_parts {p1 n kd : Nat} {ek : Nat → Nat} {nu : Nat → Int} {b : Nat → Bool} {x : Int32} (hf : 1000 ≤ f) (hp : p1 = 118 ∨ p1 = 125) (hn : n ≤ 6) (h17 : sI S 94 17 = I n) (hk : ∀ i, i < n → sA S 108 i = I (ek i) ∧ sA S 109 i = I (nu i)) (hb : ∀ i, i < n → ((x >>> (I (i : Int) &&& 31)) &&& 1 = 0) = (b i = false)) (c5 : spc b n < 6) : ∃ S', F_X12_parts sh f S 94 p1 x (I kd) = some S' ∧ enA S' p1 (ptN b n) (ptK b ek n kd) (ptU b nu n) ∧ ∀ y, y ≠ p1 → y ≠ p1 + 1 → y ≠ p1 + 2 → Sm S S' y := by
  have lp : ∀ (d i nf : Nat) (T : St), i + d = n → d < nf → enA T p1 (spc b i) (spf b ek 0 i) (spf b nu 0 i) → (∀ y, y ≠ p1 → y ≠ p1 + 1 → y ≠ p1 + 2 → Sm S T y) → ∃ S', F_X12_parts_L11 sh f 94 p1 x (I kd) nf T (I (sps b nu i)) (I i) = some S' ∧ enA S' p1 (ptN b n) (ptK b ek n kd) (ptU b nu n) ∧ ∀ y, y ≠ p1 → y ≠ p1 + 1 → y ≠ p1 + 2 → Sm S S' y := by
    intro d
    induction d with
    | zero =>
      intro i nf T h1 h2 hT F
      obtain ⟨nf, rfl⟩ : ∃ e, nf = e + 1 := ⟨nf - 1, by omega⟩
      have : i = n := by omega
      subst this
      have s17 : sI T 94 17 = I i := ((F 94 (by omega) (by omega) (by omega)).I 17).trans h17
      have nb : ¬ (I (spc b i : Int) < 0 ∨ 6 ≤ spc b i) := I_bnd c5 (by omega)
      refine ⟨_, ?_, enA_up hT kd (-(sps b nu i)), fun y a b c => (F y a b c).trans (by repeat' (first | exact Sm.rfl | (refine Sm.uI ?_ (by omega)) | (refine Sm.uA ?_ (by omega)) | (refine Sm.uJ ?_ (by omega)) | (refine Sm.uL ?_ (by omega)) | (refine Sm.uR ?_ (by omega))))⟩
      rw [F_X12_parts_L11, s17, if_pos (by rw [I_leN (by omega) (by omega)]; omega), hT.1, I_clN (show spc b i < _ by omega), if_neg nb, bnd_e, sI_uA, hT.1, I_clN (show spc b i < _ by omega), if_neg nb, bnd_e, sI_uA, sI_uA, hT.1, bnd_e, I_suc, I_neg]
    | succ d ih =>
      intro i nf T h1 h2 hT F
      obtain ⟨nf, rfl⟩ : ∃ e, nf = e + 1 := ⟨nf - 1, by omega⟩
      have s17 : sI T 94 17 = I n := ((F 94 (by omega) (by omega) (by omega)).I 17).trans h17
      have a8 : sA T (94 + 14) i = I (ek i) := ((F 108 (by omega) (by omega) (by omega)).A i).trans (hk i (by omega)).1
      have a9 : sA T (94 + 15) i = I (nu i) := ((F 109 (by omega) (by omega) (by omega)).A i).trans (hk i (by omega)).2
      rw [F_X12_parts_L11, s17, if_neg (by rw [I_leN (by omega) (by omega)]; omega)]
      simp only [hb i (by omega)]
      by_cases c : b i = false
      · rw [if_pos c, bnd_e, I_suc]
        have c' : ¬ b i = true := by rw [c]; decide
        have hT' : enA T p1 (spc b (i + 1)) (spf b ek 0 (i + 1)) (spf b nu 0 (i + 1)) := by
          rw [spc, spf, spf, if_neg c', if_neg c', if_neg c']
          exact hT
        have es : sps b nu (i + 1) = sps b nu i := by rw [sps, if_neg c']
        rw [← es]
        exact ih (i + 1) nf T (by omega) (by omega) hT' F
      · have c' : b i = true := Bool.of_not_eq_false c
        have sc := spc_mono b (d + 1) i
        have l6 : spc b i < 6 := by
          rw [h1] at sc
          omega
        have nbi : ¬ (I (i : Int) < 0 ∨ 6 ≤ i) := I_bnd (show i < 6 by omega) (by omega)
        have nb : ¬ (I (spc b i : Int) < 0 ∨ 6 ≤ spc b i) := I_bnd l6 (by omega)
        have a9' : sA (uA T (p1 + 1) (spc b i) (I (ek i))) (94 + 15) i = I (nu i) := by
          rw [sA_row _ _ _ (by omega)]; exact a9
        have a9'' : sA (uA (uA T (p1 + 1) (spc b i) (I (ek i))) (p1 + 2) (spc b i) (I (nu i))) (94 + 15) i = I (nu i) := by
          rw [sA_row _ _ _ (by omega)]; exact a9'
        have hT' : enA (uI (uA (uA T (p1 + 1) (spc b i) (I (ek i))) (p1 + 2) (spc b i) (I (nu i))) p1 2 (I ((spc b i + 1 : Nat) : Int))) p1 (spc b (i + 1)) (spf b ek 0 (i + 1)) (spf b nu 0 (i + 1)) := by
          rw [spc, spf, spf, if_pos c', if_pos c', if_pos c']
          exact enA_up hT (ek i) (nu i)
        have es : sps b nu (i + 1) = sps b nu i + nu i := by rw [sps, if_pos c']
        rw [if_neg c, I_clN (show i < _ by omega), if_neg nbi, hT.1, I_clN (show spc b i < _ by omega), if_neg nb, a8, bnd_e, if_neg nbi, sI_uA, hT.1, I_clN (show spc b i < _ by omega), if_neg nb, a9', bnd_e, if_neg nbi, a9'', bnd_e, sI_uA, sI_uA, hT.1, bnd_e, bnd_e, I_suc, I_suc, I_add, ← es]
        exact ih (i + 1) nf _ (by omega) (by omega) hT' (fun y a b c => (F y a b c).trans (by repeat' (first | exact Sm.rfl | (refine Sm.uI ?_ (by omega)) | (refine Sm.uA ?_ (by omega)) | (refine Sm.uJ ?_ (by omega)) | (refine Sm.uL ?_ (by omega)) | (refine Sm.uR ?_ (by omega)))))
  unfold F_X12_parts
  rw [bnd_e]
  exact lp n 0 f _ (by omega) (by omega) ⟨sI_self _ _ _ _, fun i hi => by rw [spc] at hi; omega⟩ (fun y a b c => (by repeat' (first | exact Sm.rfl | (refine Sm.uI ?_ (by omega)) | (refine Sm.uA ?_ (by omega)) | (refine Sm.uJ ?_ (by omega)) | (refine Sm.uL ?_ (by omega)) | (refine Sm.uR ?_ (by omega)))))
end CNb
