/-! THE LAW's loop answers 1. -/
section CXx
variable {f Ln : Nat} {xs : Nat → Int32}
theorem law_L23 (hL : Ln ≤ 4096) (hf : 20000 ≤ f) : ∀ (n i : Nat) (sh : List Sh) (S : St) (p : PC) (q : Option Nat) (w : Nat) (X : NS), i ≤ Ln → Ln < i + 8 * n → inv sh S p q w X → F_L_law_L23 f xs Ln n sh S (I i) = some 1 := by
  intro n
  induction n with
  | zero => intro i sh S p q w X h1 h2 H; omega
  | succ n ih =>
    intro i sh S p q w X h1 h2 H
    have oL : Int32.ofNat Ln = I (Ln : Int) := by
      show Int32.ofNat Ln = Int32.ofInt (Ln : Int)
      exact Int32.ofInt_eq_ofNat.symm
    have e8 : (8 : Int32) = I 8 := rfl
    have c0 : (Int32.ofNat Ln - 8 < I (i : Int)) = (Ln < i + 8) := by
      rw [oL, e8, I_sub, I_lt (by omega) (by omega)]
      exact propext (by omega)
    rw [F_L_law_L23]
    simp only [c0]
    by_cases y : Ln < i + 8
    · rw [if_pos y]
    · rw [if_neg y]
      have bk : ∀ (j : Nat) (k : Int32), j < 8 → k = I (j : Int) → bdL Ln (I i) k := fun j k hj hk => by
        unfold bdL
        rw [hk, I_add]
        have e : (i : Int) + (j : Int) = ((i + j : Nat) : Int) := by omega
        rw [e, I_clN (by omega), show (0 : Int32) = I 0 from rfl, I_lt (by omega) (by omega)]
        omega
      have B : bd7 Ln (I i) := ⟨bk 1 1 (by omega) rfl, bk 2 2 (by omega) rfl, bk 3 3 (by omega) rfl, bk 4 4 (by omega) rfl, bk 5 5 (by omega) rfl, bk 6 6 (by omega) rfl, bk 7 7 (by omega) rfl⟩
      have b0 : ¬ (I (i : Int) < 0 ∨ Ln ≤ (I (i : Int)).toNatClampNeg) := by
        rw [I_clN (by omega), show (0 : Int32) = I 0 from rfl, I_lt (by omega) (by omega)]
        omega
      have K : inK (F_L_law_L23 f xs Ln n) (I i + 8) := fun sh' S' p' q' w' X' H' => by
        have e : I (i : Int) + 8 = I ((i + 8 : Nat) : Int) := by rw [e8, I_add]; rfl
        rw [e]
        exact ih (i + 8) sh' S' p' q' w' X' (by omega) (by omega) H'
      rw [if_neg b0]
      generalize xs (I (i : Int)).toNatClampNeg &&& 31 = z
      by_cases z0 : z = 0
      · rw [if_pos z0]; exact lw_0 H hf B K
      rw [if_neg z0]
      by_cases z1 : z = 1
      · rw [if_pos z1]; exact lw_1 H hf B K
      rw [if_neg z1]
      by_cases z2 : z = 2
      · rw [if_pos z2]; exact lw_2 H K
      rw [if_neg z2]
      by_cases z3 : z = 3
      · rw [if_pos z3]; exact lw_3 H K
      rw [if_neg z3]
      by_cases z4 : z = 4
      · rw [if_pos z4]; exact lw_4 H B K
      rw [if_neg z4]
      by_cases z5 : z = 5
      · rw [if_pos z5]; exact lw_5 H B K
      rw [if_neg z5]
      by_cases z6 : z = 6
      · rw [if_pos z6]; exact lw_6 H hf B K
      rw [if_neg z6]
      by_cases z7 : z = 7
      · rw [if_pos z7]; exact lw_7 H hf B K
      rw [if_neg z7]
      by_cases z8 : z = 8
      · rw [if_pos z8]; exact lw_8 H hf B K
      rw [if_neg z8]
      by_cases z9 : z = 9
      · rw [if_pos z9]; exact lw_9 H B K
      rw [if_neg z9]
      by_cases za : z = 10
      · rw [if_pos za]; exact lw_10 H hf B K
      rw [if_neg za]
      by_cases zb : z = 11
      · rw [if_pos zb]; exact lw_11 H hf B K
      rw [if_neg zb]
      by_cases zc : z = 12
      · rw [if_pos zc]; exact lw_12 H hf K
      rw [if_neg zc]
      by_cases zd : z = 13
      · rw [if_pos zd]; exact lw_13 H hf B K
      rw [if_neg zd]
      by_cases ze : z = 14
      · rw [if_pos ze]; exact lw_14 H hf B K
      rw [if_neg ze]
      by_cases zf : z = 15
      · rw [if_pos zf]; exact lw_15 H hf B K
      rw [if_neg zf]
      by_cases zg : z = 16
      · rw [if_pos zg]; exact lw_16 H B K
      rw [if_neg zg]
      by_cases zh : z = 17
      · rw [if_pos zh]; exact lw_17 H B K
      rw [if_neg zh]
      by_cases zi : z = 18
      · rw [if_pos zi]; exact lw_18 H hf B K
      rw [if_neg zi]
      by_cases zj : z = 19
      · rw [if_pos zj]; exact lw_19 H hf B K
      rw [if_neg zj]
      by_cases zk : z = 20
      · rw [if_pos zk]; exact lw_20 H hf B K
      rw [if_neg zk]
      by_cases zl : z = 21
      · rw [if_pos zl]; exact lw_21 H B K
      rw [if_neg zl]
      by_cases zm : z = 22
      · rw [if_pos zm]; exact lw_22 H B K
      rw [if_neg zm]
      by_cases zn : z = 23
      · rw [if_pos zn]; exact lw_23 H K
      rw [if_neg zn]
      by_cases zo : z = 24
      · rw [if_pos zo]; exact lw_24 H hf B K
      rw [if_neg zo]
      by_cases zp : z = 25
      · rw [if_pos zp]; exact lw_25 H K
      rw [if_neg zp]
      unfold F_L_law_L1234
      rw [bnd_e]
      exact K _ _ _ _ _ _ H
theorem inv_start : inv SH S0 (61, 3, 71, 23, 88, 91) none 95 (0, bk00, 0, fun _ => 0, fun _ => 0, fun _ => 1) := ⟨inv0_start, fun a c ha hc => rfl, fun l => absurd l (by decide)⟩
/-- the law, from its start -/
theorem law_all (hL : Ln ≤ 4096) (hf : 20000 ≤ f) : F_L_law_L23 f xs Ln 513 SH S0 0 = some 1 := law_L23 hL hf 513 0 SH S0 _ _ _ _ (by omega) (by omega) inv_start
end CXx
