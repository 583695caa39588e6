/-! EXACTLY: the class's sum over its groups. -/
section BIa
noncomputable def swL (j : Nat) : List Dw → Int
  | [] => 0
  | d :: r => (if d.1 = j then sgR d.2.1 d.2.2 * (obN d.2.1 d.2.2 : Nat) else 0) + swL j r
theorem swL_app (j : Nat) : ∀ A E : List Dw, swL j (A ++ E) = swL j A + swL j E
  | [], E => by rw [List.nil_append, swL, Int.zero_add]
  | d :: r, E => by rw [List.cons_append, swL, swL, swL_app j r E]; omega
variable {sh : List Sh} {f g V : Nat} {S : St} {X : NS}
theorem sgL_pm (Y : Ly) (ρ : Nat → Nat) : ∀ (k : Nat) (l : List Nat), sgL Y ρ k l = 1 ∨ sgL Y ρ k l = -1
  | 0, _ => Or.inl rfl
  | k + 1, [] => Or.inl rfl
  | k + 1, i :: r => by
    have a := sgN_pm Y i (ρ i) (mkb (inl r) (yL Y))
    have b := sgL_pm Y ρ k (r.erase (ρ i))
    rw [sgL]
    rcases a with a | a <;> rcases b with b | b <;> rw [a, b] <;> simp
theorem sgR_pm (Y : Ly) (ρ : Nat → Nat) : sgR Y ρ = 1 ∨ sgR Y ρ = -1 := sgL_pm Y ρ _ _
theorem c_signed (hf : 1000 ≤ f) (v : liV S g X V) {j : Nat} (hj : j < 1000) : F_X3_signedWays sh f S g (I j) = some (J (swL j (xD X V))) := by
  have l200 := v.2.2.1
  have s17 : sI S g 17 = I ((xD X V).length : Nat) := (v.2.2.2.1.1 v.2.2.1).2.1
  have lp : ∀ (d i nf : Nat), i + d = (xD X V).length → d < nf → F_X3_signedWays_L5 sh f S g (I j) nf (J (swL j ((xD X V).take i))) (I i) = some (J (swL j (xD X V))) := by
    intro d
    induction d with
    | zero =>
      intro i nf hi hn
      obtain ⟨nf, rfl⟩ : ∃ e, nf = e + 1 := ⟨nf - 1, by omega⟩
      rw [F_X3_signedWays_L5, s17, if_pos (by rw [I_leN (by omega) (by omega)]; omega), List.take_of_length_le (by omega)]
    | succ d ih =>
      intro i nf hi hn
      obtain ⟨nf, rfl⟩ : ∃ e, nf = e + 1 := ⟨nf - 1, by omega⟩
      obtain ⟨e, he⟩ : ∃ e, (xD X V)[i]? = some e := ⟨_, List.getElem?_eq_getElem (by omega)⟩
      obtain ⟨cc, en⟩ := enK_of v he
      have nb : ¬ (I (i : Int) < 0 ∨ 200 ≤ i) := I_bnd (show i < 200 by omega) (by omega)
      have a4 : sA S (g + 4) i = I e.1 := en.2.2.2.2.2.2.2.1.2.2.2.1
      have a3 : sA S (g + 3) i = I (sgR e.2.1 e.2.2) := en.2.2.2.2.2.2.2.1.2.2.1
      have d20 := en.2.1
      have w := ((yHg_mem en.2.2.2.2.1).mp en.2.2.2.2.2.1).1
      have ob := obal_b en.2.2.2.2.1 w
      have nb2 := yNa_b en.2.2.2.2.1
      have pm := sgR_pm e.2.1 e.2.2
      have tk : swL j ((xD X V).take (i + 1)) = swL j ((xD X V).take i) + (if e.1 = j then sgR e.2.1 e.2.2 * (obN e.2.1 e.2.2 : Nat) else 0) := by
        rw [take_s he, swL_app, swL, swL, Int.add_zero]
      rw [F_X3_signedWays_L5, s17, if_neg (by rw [I_leN (by omega) (by omega)]; omega), I_clN (show i < _ by omega), if_neg nb, a4, ite_eqN (by omega) (by omega)]
      by_cases c : e.1 = j
      · rw [if_pos c] at tk
        rw [if_pos c, if_neg nb, c_ways en, Option.bind_some, a3, J_I (by omega), J_I (by omega), J_mul, J_add, ← tk]
        simp only [bnd, I_suc]
        exact ih (i + 1) nf (by omega) (by omega)
      · rw [if_neg c, Int.add_zero] at tk
        rw [if_neg c, ← tk]
        simp only [bnd, I_suc]
        exact ih (i + 1) nf (by omega) (by omega)
  exact lp (xD X V).length 0 f (by omega) (by omega)
theorem swL_b (v : liV S g X V) (j : Nat) : (swL j (xD X V)).natAbs ≤ 20132659200 := by
  have lp : ∀ n, n ≤ (xD X V).length → (swL j ((xD X V).take n)).natAbs ≤ n * 100663296 := by
    intro n
    induction n with
    | zero => intro _; rw [List.take_zero, swL]; omega
    | succ n ih =>
      intro h
      obtain ⟨e, he⟩ : ∃ e, (xD X V)[n]? = some e := ⟨_, List.getElem?_eq_getElem (by omega)⟩
      obtain ⟨cc, en⟩ := enK_of v he
      have w := ((yHg_mem en.2.2.2.2.1).mp en.2.2.2.2.2.1).1
      have ob := obal_b en.2.2.2.2.1 w
      have nb2 := yNa_b en.2.2.2.2.1
      have pm := sgR_pm e.2.1 e.2.2
      have ih := ih (by omega)
      rw [take_s he, swL_app, swL, swL, Int.add_zero]
      have t : (if e.1 = j then sgR e.2.1 e.2.2 * (obN e.2.1 e.2.2 : Nat) else 0 : Int).natAbs ≤ 100663296 := by
        by_cases c : e.1 = j
        · rw [if_pos c, Int.natAbs_mul, Int.natAbs_natCast]
          rcases pm with p | p <;> rw [p] <;> simp <;> omega
        · rw [if_neg c]; simp
      omega
  have := lp (xD X V).length (Nat.le_refl _)
  rw [List.take_length] at this
  have l := v.2.2.1
  have := Nat.mul_le_mul_right 100663296 l
  omega
end BIa
section BIb
/-- the groups as numbers: how many, exponents, tops, which have the powers -/
def mxs (e : Nat → Nat → Nat) (pq : Nat → Bool) : Nat → Nat → Nat
  | 0, _ => 0
  | j + 1, i => if pq j = true then max (mxs e pq j i) (e j i) else mxs e pq j i
def sN (e : Nat → Nat → Nat) (tp : Nat → Int) (pq : Nat → Bool) (E : Nat → Nat) : Nat → Int
  | 0 => 0
  | j + 1 => sN e tp pq E j + if pq j = true then tp j * (pw (fun i => E i - e j i) 25 : Nat) else 0
theorem mxs_ge (e : Nat → Nat → Nat) (pq : Nat → Bool) {j : Nat} (i : Nat) (p : pq j = true) : ∀ n, j < n → e j i ≤ mxs e pq n i
  | 0, h => by omega
  | n + 1, h => by
    rw [mxs]
    by_cases q : j = n
    · rw [← q, if_pos p]; omega
    · have := mxs_ge e pq (j := j) i p n (by omega)
      by_cases r : pq n = true
      · rw [if_pos r]; omega
      · rw [if_neg r]; exact this
theorem mxs_le (e : Nat → Nat → Nat) (pq : Nat → Bool) {m : Nat → Nat} {i : Nat} : ∀ n, (∀ j, j < n → pq j = true → e j i ≤ m i) → mxs e pq n i ≤ m i
  | 0, _ => by rw [mxs]; omega
  | n + 1, h => by
    have := mxs_le e pq (m := m) (i := i) n (fun j hj => h j (by omega))
    rw [mxs]
    by_cases r : pq n = true
    · have := h n (by omega) r
      rw [if_pos r]; omega
    · rw [if_neg r]; exact this
variable {sh : List Sh} {f : Nat} {S : St}
/-- what the gallery at g says of its groups for a sum -/
def gxI (sh : List Sh) (f : Nat) (S : St) (g G : Nat) (code : Int32) (wd : Int32) (e : Nat → Nat → Nat) (tp : Nat → Int) (pq : Nat → Bool) : Prop := sR S 0 11 = some g ∧ ckX3 sh g = true ∧ (g = 23 ∨ g = 71) ∧ G ≤ 20 ∧ sI S g 18 = I G ∧ (∀ j, j < G → (sA S (g + 14) j = code) = (pq j = true)) ∧ (∀ j, j < G → pq j = true → pw (e j) 25 < 9223372036854775808 ∧ (sA S (g + 11) j).toInt64 * (sA S (g + 12) j).toInt64 = J (pw (e j) 25 : Nat)) ∧ ∀ j, j < G → pq j = true → -9223372036854775808 < tp j ∧ tp j < 9223372036854775808 ∧ (wd = 0 → ∃ w, F_X3_signedWays sh f S g (I j) = some w ∧ w * (sA S (g + 13) j).toInt64 = J (tp j)) ∧ (wd ≠ 0 → (sA S (g + 15) j).toInt64 * (sA S (g + 13) j).toInt64 = J (tp j))
theorem c_dvs {g j : Nat} (hj : j < 20) : F_X3_divisor sh f S g (I j) = some ((sA S (g + 11) j).toInt64 * (sA S (g + 12) j).toInt64) := by
  unfold F_X3_divisor
  rw [I_clN (by omega), if_neg (I_bnd hj (by omega)), if_neg (I_bnd hj (by omega))]
end BIb
