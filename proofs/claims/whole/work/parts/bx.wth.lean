section BXa
/-- the place of the cut that is asked for -/
def fcR (P : Nat → Bool) (c : List Nat) : Nat → Nat → Int
  | 0, _ => -1
  | d + 1, m => if P (c.getD m 0) = true then m else fcR P c d (m + 1)
theorem fcR_b (P : Nat → Bool) (c : List Nat) : ∀ d m, -1 ≤ fcR P c d m ∧ fcR P c d m < (m + d : Nat)
  | 0, m => by rw [fcR]; omega
  | d + 1, m => by
    have := fcR_b P c d (m + 1)
    rw [fcR]
    by_cases h : P (c.getD m 0) = true
    · rw [if_pos h]; omega
    · rw [if_neg h]; omega
def ctP (Y : Ly) (ρ : Nat → Nat) (sd kd x : Nat) : Bool := sdN Y ρ x == sd && onN Y ρ x == kd
/-- the letters of a layout, multiplied -/
def ltN (Y : Ly) (le : Nat → Int) : Int := le 0 ^ lcN Y 0 (yV Y) * le 1 ^ lcN Y 1 (yV Y) * le 2 ^ lcN Y 2 (yV Y)
def tIN (le : Nat → Int) (d : Dw) : Int := sgR d.2.1 d.2.2 * (wrN d.2.1 (yV d.2.1) * ltN d.2.1 le)
abbrev dCl (d : Dw) : List Nat := cl d.2.1 d.2.2 (yL d.2.1)
def wOf (sd kd : Nat) (d : Dw) : Int := if sd = 0 then -1 else fcR (ctP d.2.1 d.2.2 sd kd) (dCl d) (dCl d).length 0
def usd (V sd kd : Nat) (d : Dw) : Bool := trB V d && (sd == 0 || decide (wOf sd kd d ≠ -1))
def byW (sd kd : Nat) (d : Dw) : List Nat := wlX (dCl d) (wOf sd kd d) (dCl d).length
noncomputable def blN (nu : Nat → Int) (sd kd k : Nat) (d : Dw) : Nat := bpN (pQ k) (alN d.2.1 d.2.2) ((byW sd kd d).map (byI nu d.2.1 d.2.2))
/-- a term's rest -/
def trm (p : Nat) (t : Int) (b : Nat) : Nat := (t % (p : Int)).toNat * (b ^ (p - 2) % p) % p
noncomputable def rsL (nu le : Nat → Int) (V sd kd k : Nat) : Nat → List Dw → Nat
  | a, [] => a
  | a, d :: r => rsL nu le V sd kd k (if usd V sd kd d = true then (a + trm (pQ k) (tIN le d) (blN nu sd kd k d)) % pQ k else a) r
def plL (nu : Nat → Int) (V sd kd : Nat) : Int32 → List Dw → Int32
  | P, [] => P
  | P, d :: r => plL nu V sd kd (if usd V sd kd d = true then plF nu d.2.1 d.2.2 P (byW sd kd d) else P) r
noncomputable def lo4 (nu : Nat → Int) (sd kd : Nat) (d : Dw) : Bool := (List.range 4).any (fun k => blN nu sd kd k d == 0)
noncomputable def loL (nu : Nat → Int) (V sd kd : Nat) : Bool → List Dw → Bool
  | b, [] => b
  | b, d :: r => loL nu V sd kd (if usd V sd kd d = true then b || lo4 nu sd kd d else b) r
theorem rsL_lt {nu le : Nat → Int} {V sd kd k : Nat} : ∀ (L : List Dw) (a : Nat), a < pQ k → rsL nu le V sd kd k a L < pQ k
  | [], _, h => h
  | d :: r, a, h => by
    rw [rsL]
    refine rsL_lt r _ ?_
    by_cases c : usd V sd kd d = true
    · rw [if_pos c]; exact Nat.mod_lt _ (by have := pQ_b k; omega)
    · rw [if_neg c]; exact h
end BXa
section BXb
variable {sh : List Sh} {f : Nat} {S : St} {g V i : Nat} {d : Dw}
theorem c_fcut (hf : 1000 ≤ f) (en : enW S g V i d) {sd kd : Nat} (hs : sd < 64) (hk : kd < 8) : F_X7_findCut sh f S g (I i) (I sd) (I kd) = some (I (fcR (ctP d.2.1 d.2.2 sd kd) (dCl d) (dCl d).length 0)) := by
  obtain ⟨e1, e2, e3, e4, e5, e6, e7, e8, e9, e10⟩ := en
  have n6 := e3.2.1.2
  have c2 : (dCl d).length ≤ 2 := e6.2.2.2.2.2.1
  have c5 : sA S (g + 5) i = I ((dCl d).length : Nat) := e6.2.2.2.2.1
  have nbi : ¬ (I (i : Int) < 0 ∨ 200 ≤ i) := I_bnd e1 (by omega)
  have lp : ∀ (r m nf : Nat), m + r = (dCl d).length → r < nf → F_X7_findCut_L3 sh f S g (I i) (I sd) (I kd) nf (I m) = some (I (fcR (ctP d.2.1 d.2.2 sd kd) (dCl d) r m)) := by
    intro r
    induction r with
    | zero =>
      intro m nf hm hn
      obtain ⟨nf, rfl⟩ : ∃ e, nf = e + 1 := ⟨nf - 1, by omega⟩
      rw [F_X7_findCut_L3, I_clN (by omega), if_neg nbi, c5, if_pos (by rw [I_leN (by omega) (by omega)]; omega), fcR]
      rfl
    | succ r ih =>
      intro m nf hm hn
      obtain ⟨nf, rfl⟩ : ∃ e, nf = e + 1 := ⟨nf - 1, by omega⟩
      have sk := e6.2.2.2.2.2.2 m (show m < (dCl d).length by omega)
      have six : I (i : Int) * (2 : Int32) + I (m : Int) = I ((2 * i + m : Nat) : Int) := by
        rw [show (2 : Int32) = I 2 from rfl, I_mul, I_add]
        congr 1
        omega
      have ixb : ¬ (I ((2 * i + m : Nat) : Int) < 0 ∨ 400 ≤ 2 * i + m) := I_bnd (show 2 * i + m < 400 by omega) (by omega)
      generalize hx : (dCl d).getD m 0 = x at *
      have so : F_X3_sideOf sh f S g (I i) (I m) = some (I (sdN d.2.1 d.2.2 x)) := by
        unfold F_X3_sideOf
        rw [six, I_clN (show 2 * i + m < _ by omega), if_neg ixb, sk.1]
      have sko : F_X3_sideKindOf sh f S g (I i) (I m) = some (I (onN d.2.1 d.2.2 x)) := by
        unfold F_X3_sideKindOf
        rw [six, I_clN (show 2 * i + m < _ by omega), if_neg ixb, sk.2]
      have ok8 := onN_k (ρ := d.2.2) e3 x
      have k8 := e3.1.1.1
      have sd6 : sdN d.2.1 d.2.2 x < 64 := by
        have := mkb_lt (fun e => decide (pB d.2.1 (d.2.2 e) &&& rcN (lkW d.2.1 d.2.2 x) (pB d.2.1 (d.2.2 0)) ≠ 0)) (yN d.2.1)
        have q : 2 ^ yN d.2.1 ≤ 2 ^ 6 := Nat.pow_le_pow_right (by omega) n6
        have : sdN d.2.1 d.2.2 x < 2 ^ yN d.2.1 := this
        omega
      rw [F_X7_findCut_L3, I_clN (show i < _ by omega), if_neg nbi, c5, if_neg (by rw [I_leN (by omega) (by omega)]; omega), so, Option.bind_some, sko, ite_eqN (by omega) (by omega), fcR, hx]
      simp only [bnd, I_suc]
      unfold ctP at *
      by_cases a : sdN d.2.1 d.2.2 x = sd
      · rw [if_pos a, Option.bind_some, ite_eqN (by omega) (by omega)]
        by_cases b : onN d.2.1 d.2.2 x = kd
        · rw [if_pos b, if_pos (by rw [Bool.and_eq_true, beq_iff_eq, beq_iff_eq]; exact ⟨a, b⟩)]
        · rw [if_neg b, if_neg (by rw [Bool.and_eq_true, beq_iff_eq, beq_iff_eq]; exact fun q => b q.2)]
          exact ih (m + 1) nf (by omega) (by omega)
      · rw [if_neg a, if_neg (by rw [Bool.and_eq_true, beq_iff_eq, beq_iff_eq]; exact fun q => a q.1)]
        exact ih (m + 1) nf (by omega) (by omega)
  exact lp (dCl d).length 0 f (by omega) (by omega)
theorem c_above (hf : 1000 ≤ f) (en : enW S g V i d) {le : Nat → Int} (hle : ∀ l, l < 3 → -99 ≤ le l ∧ le l ≤ 99 ∧ sA S 59 l = I (le l)) : F_X7_above sh f S g (I i) 59 3 = some (J (wrN d.2.1 (yV d.2.1) * ltN d.2.1 le)) := by
  obtain ⟨e1, e2, e3, e4, e5, e6, e7, e8, e9, e10⟩ := en
  have V3 := e3.2.2.2.1
  have nbi : ¬ (I (i : Int) < 0 ∨ 200 ≤ i) := I_bnd e1 (by omega)
  have nbd : ¬ (I (d.1 : Int) < 0 ∨ 20 ≤ d.1) := I_bnd e2 (by omega)
  have a4 : sA S (g + 4) i = I d.1 := e6.2.2.2.1
  have wb := wr_b e3 V (by omega)
  have w3 : 99 ^ V ≤ 99 ^ 3 := Nat.pow_le_pow_right (by omega) (by omega)
  have b0 := lcN_le d.2.1 0 (yV d.2.1)
  have b1 := lcN_le d.2.1 1 (yV d.2.1)
  have b2 := lcN_le d.2.1 2 (yV d.2.1)
  have pwe := pw_lc e3 (yV d.2.1) (Nat.le_refl _)
  rw [e5] at pwe b0 b1 b2
  have and3 : ∀ n : Nat, n < 2147483648 → I (n : Int) &&& 3 = I ((n % 4 : Nat) : Int) := fun n hn => by
    have := I_and (a := n) (b := 3) hn (by omega)
    have e : n &&& 3 = n % 4 := by
      rw [show (3 : Nat) = 2 ^ 2 - 1 from rfl, Nat.and_two_pow_sub_one_eq_mod]
    rw [e] at this
    exact this
  have inn : ∀ (k18 : Int32 → Int64 → Int32 → Option Int64) (l : Nat), l < 3 → ∀ (c n nf : Nat) (P : Int), c < nf → n + c < 4 → F_X7_above_L51 sh f S g (I i) 59 3 k18 nf (I d.1) (J P) (I l) (I ((n + c : Nat) : Int)) (I n) = k18 (I d.1) (J (P * le l ^ c)) (I ((l + 1 : Nat) : Int)) := by
    intro k18 l hl c
    induction c with
    | zero =>
      intro n nf P hn h4
      obtain ⟨nf, rfl⟩ : ∃ e, nf = e + 1 := ⟨nf - 1, by omega⟩
      rw [F_X7_above_L51, if_pos (by rw [I_leN (by omega) (by omega)]; omega)]
      simp only [bnd, I_suc]
      rw [Int.pow_zero, Int.mul_one]
    | succ c ih =>
      intro n nf P hn h4
      obtain ⟨nf, rfl⟩ : ∃ e, nf = e + 1 := ⟨nf - 1, by omega⟩
      obtain ⟨q1, q2, q3⟩ := hle l hl
      rw [F_X7_above_L51, if_neg (by rw [I_leN (by omega) (by omega)]; omega), I_clN (show l < _ by omega), if_neg (I_bnd (show l < 3 by omega) (by omega)), q3, J_I (by omega), J_mul]
      simp only [bnd, I_suc]
      rw [show n + (c + 1) = n + 1 + c by omega, ih (n + 1) nf (P * le l) (by omega) (by omega), Int.pow_succ]
      congr 2
      rw [Int.mul_assoc, Int.mul_comm (le l)]
  have i14 : sA S (g + 14) d.1 = I (pwN d.2.1 V : Nat) := e9
  have stp : ∀ (l nf : Nat) (P : Int), l < 3 → F_X7_above_L18 sh f S g (I i) 59 3 (nf + 1) (I d.1) (J P) (I l) = F_X7_above_L18 sh f S g (I i) 59 3 nf (I d.1) (J (P * le l ^ lcN d.2.1 l V)) (I ((l + 1 : Nat) : Int)) := fun l nf P hl => by
    have sh' : (2 : Int32) * ((2 : Int32) - I (l : Int)) = I ((2 * (2 - l) : Nat) : Int) := by
      rw [show (2 : Int32) = I 2 from rfl, I_sub, I_mul]
      congr 1
      omega
    have pl : pwN d.2.1 V < 2147483648 := by omega
    have dl : pwN d.2.1 V / 2 ^ (2 * (2 - l)) ≤ pwN d.2.1 V := Nat.div_le_self _ _
    have dg : pwN d.2.1 V / 2 ^ (2 * (2 - l)) % 4 = lcN d.2.1 l V := by
      rw [pwe]
      rcases (by omega : l = 0 ∨ l = 1 ∨ l = 2) with rfl | rfl | rfl
      · show (16 * lcN d.2.1 0 V + 4 * lcN d.2.1 1 V + lcN d.2.1 2 V) / 16 % 4 = _
        omega
      · show (16 * lcN d.2.1 0 V + 4 * lcN d.2.1 1 V + lcN d.2.1 2 V) / 4 % 4 = _
        omega
      · show (16 * lcN d.2.1 0 V + 4 * lcN d.2.1 1 V + lcN d.2.1 2 V) / 1 % 4 = _
        omega
    have n3 : Int32.ofNat 3 = I ((3 : Nat) : Int) := rfl
    rw [F_X7_above_L18, if_neg (by rw [show (3 : Int32) = I ((3 : Nat) : Int) from rfl, I_leN (by omega) (by omega)]; omega), if_neg (by rw [n3, I_leN (by omega) (by omega)]; omega), I_clN (show d.1 < _ by omega), if_neg nbd, i14, sh', I_shr (by omega) pl, and3 _ (by omega), dg]
    simp only [bnd]
    have lb := lcN_le d.2.1 l V
    have := inn (F_X7_above_L18 sh f S g (I i) 59 3 nf) l hl (lcN d.2.1 l V) 0 f P (by omega) (by omega)
    rw [Nat.zero_add] at this
    exact this
  unfold F_X7_above F_X3_groupOf
  rw [I_clN (show i < _ by omega), if_neg nbi, a4, Option.bind_some, I_clN (show d.1 < _ by omega), if_neg nbd, e8, J_I (by omega)]
  simp only [bnd]
  obtain ⟨f1, hf1⟩ : ∃ x, f = x + 1 + 1 + 1 + 1 := ⟨f - 4, by omega⟩
  have key : ∀ n, n = f1 + 1 + 1 + 1 + 1 → F_X7_above_L18 sh f S g (I i) 59 3 n (I d.1) (J (wrN d.2.1 V)) 0 = some (J (wrN d.2.1 (yV d.2.1) * ltN d.2.1 le)) := fun n hn => by
    have s0 := stp 0 (f1 + 1 + 1 + 1) (wrN d.2.1 V) (by omega)
    have s0' : F_X7_above_L18 sh f S g (I i) 59 3 (f1 + 1 + 1 + 1 + 1) (I d.1) (J (wrN d.2.1 V)) 0 = _ := s0
    rw [hn, s0', stp 1 _ _ (by omega), stp 2 _ _ (by omega), F_X7_above_L18, if_pos (by decide)]
    unfold ltN
    rw [e5]
    congr 2
    rw [Int.mul_assoc, Int.mul_assoc, Int.mul_assoc]
  exact key f hf1
end BXb
