section M55
variable {sh : List Sh} {S : St} {p : PC} {q : Option Nat} {w : Nat} {X : NS} {f : Nat} {p1 p2 p3 p4 p5 p6 : Int32}
def mav (p1 p2 p3 p4 p5 p6 : Int32) (i : Nat) : Int32 := if i = 0 then p1 else if i = 1 then p2 else if i = 2 then p3 else if i = 3 then p4 else if i = 4 then p5 else p6
/-- the kinds told before the first -1: how many; none: one of them is no kind -/
def scan (K : Nat) (av : Nat → Int32) : Nat → Nat → Option Nat
  | 0, k => some k
  | r + 1, k => if av k = -1 then some k else if av k < 0 ∨ I K ≤ av k then none else scan K av r (k + 1)
theorem scan_le {K : Nat} {av : Nat → Int32} : ∀ (r k m : Nat), scan K av r k = some m → k ≤ m ∧ m ≤ k + r ∧ ∀ i, k ≤ i → i < m → ¬ (av i < 0 ∨ I K ≤ av i)
  | 0, k, m, h => by
    cases h
    exact ⟨by omega, by omega, fun i a b => by omega⟩
  | r + 1, k, m, h => by
    rw [scan] at h
    by_cases c1 : av k = -1
    · rw [if_pos c1] at h
      cases h
      exact ⟨by omega, by omega, fun i a b => by omega⟩
    · rw [if_neg c1] at h
      by_cases c2 : av k < 0 ∨ I K ≤ av k
      · rw [if_pos c2] at h; cases h
      · rw [if_neg c2] at h
        obtain ⟨a1, a2, a3⟩ := scan_le r (k + 1) m h
        refine ⟨by omega, by omega, fun i i1 i2 => ?_⟩
        by_cases e : i = k
        · subst e; exact c2
        · exact a3 i (by omega) i2
/-- the developers' loop over what is told -/
theorem c_scan {b K : Nat} {av : Nat → Int32} (hb : sR S 0 10 = some b) (kb : ckX0 sh b = true) (hK : sI S b 9 = I K) (hK8 : K ≤ 8) (ht : ∀ i, i < 6 → sA S 60 i = av i) : ∀ (r k n : Nat), k + r = 6 → r < n → F_X8_meeting_L48 sh f 0 p1 p2 p3 p4 p5 p6 n S (I k) = (match scan K av r k with
    | none => some (-1, uI S 0 16 1)
    | some m => F_X8_meeting_L95 sh f 0 p1 p2 p3 p4 p5 p6 S (I m)) := by
  intro r
  induction r with
  | zero =>
    intro k n hk hn
    obtain ⟨n, rfl⟩ : ∃ e, n = e + 1 := ⟨n - 1, by omega⟩
    have : k = 6 := by omega
    subst this
    rw [F_X8_meeting_L48, if_pos (by decide)]
    rfl
  | succ r ih =>
    intro k n hk hn
    obtain ⟨n, rfl⟩ : ∃ e, n = e + 1 := ⟨n - 1, by omega⟩
    have c1 : ¬ (6 : Int32) ≤ I k := by rw [show (6 : Int32) = I ((6 : Nat) : Int) from rfl, I_leN (by omega) (by omega)]; omega
    have c2 : ¬ (I k < 0 ∨ 6 ≤ (I k).toNatClampNeg) := by
      rw [I_clN (by omega), show (0 : Int32) = I 0 from rfl, I_lt (by omega) (by omega)]; omega
    have t : sA S 60 k = av k := ht k (by omega)
    have cl : (I k).toNatClampNeg = k := I_clN (by omega)
    have c2' : ¬ (I k < 0 ∨ 6 ≤ k) := by rw [cl] at c2; exact c2
    rw [F_X8_meeting_L48, if_neg c1, if_neg c2, scan]
    simp only [Nat.zero_add, cl, t]
    by_cases c3 : av k = -1
    · rw [if_pos c3, if_pos c3]
    · rw [if_neg c3, if_neg c3, hb, Option.bind_some, if_pos kb, if_neg c2']
      by_cases c4 : av k < 0
      · rw [if_pos (Or.inl c4)]
        simp only [F_X0_hasKind, if_pos c4, Option.bind_some, if_true, F_X8_refused, bnd]
      · by_cases c5 : I K ≤ av k
        · rw [if_pos (Or.inr c5)]
          simp only [F_X0_hasKind, if_neg c4, hK, if_pos c5, Option.bind_some, if_true, F_X8_refused, bnd]
        · have c6 : ¬ (av k < 0 ∨ I K ≤ av k) := by
            rintro (c | c)
            · exact c4 c
            · exact c5 c
          rw [if_neg c6]
          simp only [F_X0_hasKind, if_neg c4, hK, if_neg c5, Option.bind_some, if_neg i10, bnd]
          rw [show (1 : Int32) = I 1 from rfl, I_add]
          exact ih (k + 1) n (by omega) (by omega)
theorem c_adds {av : Nat → Int32} {m : Nat} (hm : m ≤ 6) : ∀ (r k n : Nat) (S : St), k + r = m → r < n → sI S 44 2 = I k → (∀ i, i < 6 → sA S 60 i = av i) → (∀ i, i < k → sA S 45 i = av i ∧ sA S 46 i = 0) → ∃ T, F_X8_meeting_L133 sh f 0 p1 p2 p3 p4 p5 p6 n S (I m) (I k) = some (I m, uI (uI T 0 14 0) 0 16 0) ∧ sI T 44 2 = I m ∧ (∀ i, i < m → sA T 45 i = av i ∧ sA T 46 i = 0) ∧ (∀ c, c ≠ 44 → c ≠ 45 → c ≠ 46 → Sm S T c) ∧ sR T = sR S ∧ sJ T = sJ S ∧ sL T = sL S ∧ ∀ c, c ≠ 44 → sI T c = sI S c := by
  intro r
  induction r with
  | zero =>
    intro k n S hk hn e ht ha
    obtain ⟨n, rfl⟩ : ∃ e, n = e + 1 := ⟨n - 1, by omega⟩
    have : k = m := by omega
    subst this
    refine ⟨S, ?_, e, ha, fun c _ _ _ => Sm.rfl, rfl, rfl, rfl, fun c _ => rfl⟩
    rw [F_X8_meeting_L133, if_pos (by rw [I_leN (by omega) (by omega)]; omega)]
    rfl
  | succ r ih =>
    intro k n S hk hn e ht ha
    obtain ⟨n, rfl⟩ : ∃ e, n = e + 1 := ⟨n - 1, by omega⟩
    have c1 : ¬ I m ≤ I k := by rw [I_leN (by omega) (by omega)]; omega
    have cl : (I k).toNatClampNeg = k := I_clN (by omega)
    have c2 : ¬ (I k < 0 ∨ 6 ≤ (I k).toNatClampNeg) := by
      rw [cl, show (0 : Int32) = I 0 from rfl, I_lt (by omega) (by omega)]; omega
    have c3 : ¬ (6 : Int32) ≤ I k := by rw [show (6 : Int32) = I ((6 : Nat) : Int) from rfl, I_leN (by omega) (by omega)]; omega
    have t : sA S 60 k = av k := ht k (by omega)
    have c2' : ¬ (I k < 0 ∨ 6 ≤ k) := by rw [cl] at c2; exact c2
    have ad : F_X1_add sh f S 44 (av k) 0 = some (uI (uA (uA S 45 k (av k)) 46 k 0) 44 2 (I ((k + 1 : Nat) : Int))) := by
      have e' : sI (uA S 45 k (av k)) 44 2 = I k := e
      have e'' : sI (uA (uA S 45 k (av k)) 46 k 0) 44 2 = I k := e
      simp only [F_X1_add, e, if_neg c3, cl, if_neg c2', bnd, e', e'']
      rw [show (1 : Int32) = I 1 from rfl, I_add]
      rfl
    rw [F_X8_meeting_L133, if_neg c1, if_neg c2]
    simp only [Nat.zero_add, cl, t, ad, Option.bind_some, bnd]
    rw [show (1 : Int32) = I 1 from rfl, I_add]
    obtain ⟨T, g1, g2, g3, g4, g5, g6, g7, g8⟩ := ih (k + 1) n (uI (uA (uA S 45 k (av k)) 46 k 0) 44 2 (I ((k + 1 : Nat) : Int))) (by omega) (by omega) (sI_self _ _ _ _) ht (fun i hi => by
      show up1 (sA S 45) k (av k) i = av i ∧ up1 (sA S 46) k 0 i = 0
      rw [up1_if, up1_if]
      by_cases d : i = k
      · rw [if_pos d, if_pos d, d]; exact ⟨rfl, rfl⟩
      · rw [if_neg d, if_neg d]; exact ha i (by omega))
    exact ⟨T, g1, g2, g3, fun c a b d => Sm.trans (by repeat' (first | exact Sm.rfl | (refine Sm.uI ?_ (by omega)) | (refine Sm.uA ?_ (by omega)) | (refine Sm.uJ ?_ (by omega)) | (refine Sm.uL ?_ (by omega)) | (refine Sm.uR ?_ (by omega)))) (g4 c a b d), g5, g6, g7, fun c hc => (g8 c hc).trans (sI_row _ _ _ hc)⟩
/-- the reference's loop over what is told -/
theorem r_scan {z K : Nat} (hb : sR S 94 5 = some z) (kz : ckX9 sh z = true) (hK : sI S z 0 = I K) (hK8 : K ≤ 8) : ∀ (r k n : Nat), k + r = 6 → r + 2 < n → F_X12_meeting_L27 sh f 94 p1 p2 p3 p4 p5 p6 n S (I k) 1 (I k) = (match scan K (mav p1 p2 p3 p4 p5 p6) r k with
    | none => some (-1, uI (uI (uI S 94 1 1) 94 2 (-1)) 94 4 (-1))
    | some m => F_X12_meeting_L139 sh f 94 p1 p2 p3 p4 p5 p6 S (I m)) := by
  intro r
  induction r with
  | zero =>
    intro k n hk hn
    obtain ⟨n, rfl⟩ : ∃ e, n = e + 1 := ⟨n - 1, by omega⟩
    have : k = 6 := by omega
    subst this
    rw [F_X12_meeting_L27, if_pos (by decide)]
    rfl
  | succ r ih =>
    intro k n hk hn
    obtain ⟨n, rfl⟩ : ∃ e, n = e + 1 := ⟨n - 1, by omega⟩
    have c1 : ¬ (6 : Int32) ≤ I k := by rw [show (6 : Int32) = I ((6 : Nat) : Int) from rfl, I_leN (by omega) (by omega)]; omega
    have key : ∀ v, F_X12_meeting_L92 sh f 94 p1 p2 p3 p4 p5 p6 (F_X12_meeting_L27 sh f 94 p1 p2 p3 p4 p5 p6 n) S (I k) (I k) v = (if v = -1 then F_X12_meeting_L139 sh f 94 p1 p2 p3 p4 p5 p6 S (I k) else if v < 0 ∨ I K ≤ v then some (-1, uI (uI (uI S 94 1 1) 94 2 (-1)) 94 4 (-1)) else F_X12_meeting_L27 sh f 94 p1 p2 p3 p4 p5 p6 n S (I ((k + 1 : Nat) : Int)) 1 (I ((k + 1 : Nat) : Int))) := by
      intro v
      have o : (I k : Int32) + 1 = I ((k + 1 : Nat) : Int) := by rw [show (1 : Int32) = I 1 from rfl, I_add]; rfl
      unfold F_X12_meeting_L92
      by_cases d1 : v = -1
      · rw [if_pos d1, if_pos d1]
        simp only [F_X12_meeting_L105, if_true, bnd, o]
        obtain ⟨n, rfl⟩ : ∃ e, n = e + 1 := ⟨n - 1, by omega⟩
        rw [F_X12_meeting_L27]
        by_cases d2 : (6 : Int32) ≤ I ((k + 1 : Nat) : Int)
        · rw [if_pos d2]
        · rw [if_neg d2, if_pos rfl]
      · rw [if_neg d1, if_neg d1]
        simp only [F_X12_meeting_L105, if_neg i10, F_X12_isKind, hb, oN]
        by_cases d2 : v < 0
        · rw [if_pos d2, if_pos (Or.inl d2)]
          simp only [Option.bind_some, if_true, F_X12_refused, bnd]
        · rw [if_neg d2]
          simp only [Option.bind_some, if_pos kz, hK]
          by_cases d3 : I K ≤ v
          · rw [if_pos d3, if_pos (Or.inr d3)]
            simp only [Option.bind_some, if_true, F_X12_refused, bnd]
          · have d4 : ¬ (v < 0 ∨ I K ≤ v) := by
              rintro (c | c)
              · exact d2 c
              · exact d3 c
            rw [if_neg d3, if_neg d4]
            simp only [Option.bind_some, if_neg i10, bnd, o]
    have q0 : (I k = 0) = (k = 0) := by rw [show (0 : Int32) = I 0 from rfl, I_eq (by omega) (by omega)]; exact propext ⟨fun h => by omega, fun h => by omega⟩
    have q1 : (I k = 1) = (k = 1) := by rw [show (1 : Int32) = I 1 from rfl, I_eq (by omega) (by omega)]; exact propext ⟨fun h => by omega, fun h => by omega⟩
    have q2 : (I k = 2) = (k = 2) := by rw [show (2 : Int32) = I 2 from rfl, I_eq (by omega) (by omega)]; exact propext ⟨fun h => by omega, fun h => by omega⟩
    have q3 : (I k = 3) = (k = 3) := by rw [show (3 : Int32) = I 3 from rfl, I_eq (by omega) (by omega)]; exact propext ⟨fun h => by omega, fun h => by omega⟩
    have q4 : (I k = 4) = (k = 4) := by rw [show (4 : Int32) = I 4 from rfl, I_eq (by omega) (by omega)]; exact propext ⟨fun h => by omega, fun h => by omega⟩
    have e : F_X12_meeting_L27 sh f 94 p1 p2 p3 p4 p5 p6 (n + 1) S (I k) 1 (I k) = F_X12_meeting_L92 sh f 94 p1 p2 p3 p4 p5 p6 (F_X12_meeting_L27 sh f 94 p1 p2 p3 p4 p5 p6 n) S (I k) (I k) (mav p1 p2 p3 p4 p5 p6 k) := by
      rw [F_X12_meeting_L27, if_neg c1, if_neg i10]
      simp only [q0, q1, q2, q3, q4, mav]
      repeat' (first | rfl | split)
    rw [e, key, scan]
    by_cases d1 : mav p1 p2 p3 p4 p5 p6 k = -1
    · rw [if_pos d1, if_pos d1]
    · rw [if_neg d1, if_neg d1]
      by_cases d2 : mav p1 p2 p3 p4 p5 p6 k < 0 ∨ I K ≤ mav p1 p2 p3 p4 p5 p6 k
      · rw [if_pos d2, if_pos d2]
      · rw [if_neg d2, if_neg d2]
        exact ih (k + 1) n (by omega) (by omega)
theorem r_zero {m : Int32} : ∀ (r k n : Nat) (S : St), k + r = 6 → r < n → (∀ i, i < k → sA S 109 i = 0) → ∃ T, F_X12_meeting_L205 sh f 94 p1 p2 p3 p4 p5 p6 n S m (I k) = some (m, uI (uI (uI (uI T 94 18 0) 94 1 0) 94 2 (-1)) 94 4 (-1)) ∧ (∀ i, i < 6 → sA T 109 i = 0) ∧ (∀ c, c ≠ 109 → Sm S T c) ∧ sR T = sR S ∧ sJ T = sJ S ∧ sL T = sL S ∧ sI T = sI S := by
  intro r
  induction r with
  | zero =>
    intro k n S hk hn ha
    obtain ⟨n, rfl⟩ : ∃ e, n = e + 1 := ⟨n - 1, by omega⟩
    have : k = 6 := by omega
    subst this
    refine ⟨S, ?_, ha, fun c _ => Sm.rfl, rfl, rfl, rfl, rfl⟩
    rw [F_X12_meeting_L205, if_pos (by decide)]
    rfl
  | succ r ih =>
    intro k n S hk hn ha
    obtain ⟨n, rfl⟩ : ∃ e, n = e + 1 := ⟨n - 1, by omega⟩
    have c1 : ¬ (6 : Int32) ≤ I k := by rw [show (6 : Int32) = I ((6 : Nat) : Int) from rfl, I_leN (by omega) (by omega)]; omega
    have cl : (I k).toNatClampNeg = k := I_clN (by omega)
    have c2 : ¬ (I k < 0 ∨ 6 ≤ (I k).toNatClampNeg) := by
      rw [cl, show (0 : Int32) = I 0 from rfl, I_lt (by omega) (by omega)]; omega
    rw [F_X12_meeting_L205, if_neg c1, if_neg c2]
    simp only [cl, bnd]
    rw [show (1 : Int32) = I 1 from rfl, I_add]
    obtain ⟨T, g1, g2, g3, g4, g5, g6, g7⟩ := ih (k + 1) n (uA S 109 k 0) (by omega) (by omega) (fun i hi => by
      show up1 (sA S 109) k 0 i = 0
      rw [up1_if]
      by_cases d : i = k
      · rw [if_pos d]
      · rw [if_neg d]; exact ha i (by omega))
    exact ⟨T, g1, g2, fun c a => Sm.trans (uA_o a) (g3 c a), g4, g5, g6, g7⟩
end M55
