/-! WORTHS of the class: what a drawing is divided by. -/
section BWa
/-- flow times flow less heavy times heavy -/
def byI (nu : Nat → Int) (Y : Ly) (ρ : Nat → Nat) (i : Nat) : Int := flw nu (sdN Y ρ i) (yN Y) * flw nu (sdN Y ρ i) (yN Y) - (bH (yB Y) (onN Y ρ i) : Int) * (bH (yB Y) (onN Y ρ i) : Int)
def nuB (nu : Nat → Int) (n : Nat) : Prop := ∀ i, i < n → -5000 ≤ nu i ∧ nu i ≤ 5000
theorem onN_k {Y : Ly} {ρ : Nat → Nat} (ok : yOk Y) (i : Nat) : onN Y ρ i < bK (yB Y) := by
  unfold onN
  by_cases c : rcN (lkW Y ρ i) (pB Y (ρ 0)) &&& pB Y i = 0
  · rw [if_pos c]; exact k_lt ok _
  · rw [if_neg c]; exact k_lt ok _
theorem byI_b {nu : Nat → Int} {Y : Ly} {ρ : Nat → Nat} (ok : yOk Y) (hn : nuB nu (yN Y)) (i : Nat) : -1000000000 ≤ byI nu Y ρ i ∧ byI nu Y ρ i ≤ 1000000000 ∧ -30000 ≤ flw nu (sdN Y ρ i) (yN Y) ∧ flw nu (sdN Y ρ i) (yN Y) ≤ 30000 := by
  have b := flw_bd (en := nu) (s := sdN Y ρ i) (M := 5000) (by omega) (yN Y) hn
  have n6 := ok.2.1.2
  have hb := (ok.1.1.2 _ (onN_k (ρ := ρ) ok i)).2.2
  have f1 : -30000 ≤ flw nu (sdN Y ρ i) (yN Y) ∧ flw nu (sdN Y ρ i) (yN Y) ≤ 30000 := by omega
  have f2 : 0 ≤ flw nu (sdN Y ρ i) (yN Y) * flw nu (sdN Y ρ i) (yN Y) ∧ flw nu (sdN Y ρ i) (yN Y) * flw nu (sdN Y ρ i) (yN Y) ≤ 900000000 := by
    have e : ((flw nu (sdN Y ρ i) (yN Y)).natAbs : Int) * (flw nu (sdN Y ρ i) (yN Y)).natAbs = flw nu (sdN Y ρ i) (yN Y) * flw nu (sdN Y ρ i) (yN Y) := Int.natAbs_mul_self
    have m := Nat.mul_le_mul (show (flw nu (sdN Y ρ i) (yN Y)).natAbs ≤ 30000 by omega) (show (flw nu (sdN Y ρ i) (yN Y)).natAbs ≤ 30000 by omega)
    rw [← e, ← Int.natCast_mul]
    omega
  have h2 := Nat.mul_le_mul hb.2.1 hb.2.1
  unfold byI
  rw [← Int.natCast_mul]
  omega
/-- a product of rests -/
def bpN (p : Nat) : Nat → List Int → Nat
  | a, [] => a
  | a, b :: l => bpN p (a * (b % (p : Int)).toNat % p) l
theorem bpN_app (p : Nat) : ∀ (l : List Int) (a : Nat) (l' : List Int), bpN p a (l ++ l') = bpN p (bpN p a l) l'
  | [], _, _ => rfl
  | b :: l, a, l' => by rw [List.cons_append, bpN, bpN, bpN_app p l]
theorem bpN_b {p : Nat} (hp : 0 < p) : ∀ (l : List Int) (a : Nat), bpN p a l ≤ a ∨ bpN p a l < p
  | [], a => Or.inl (Nat.le_refl _)
  | b :: l, a => by
    rw [bpN]
    have m : a * (b % (p : Int)).toNat % p < p := Nat.mod_lt _ hp
    rcases bpN_b hp l (a * (b % (p : Int)).toNat % p) with h | h
    · right; omega
    · right; exact h
/-- the pole: the first that is 0 -/
def plF (nu : Nat → Int) (Y : Ly) (ρ : Nat → Nat) (P : Int32) : List Nat → Int32
  | [] => P
  | i :: r => plF nu Y ρ (if P = -1 ∧ byI nu Y ρ i = 0 then I (sdN Y ρ i) else P) r
theorem plF_app (nu : Nat → Int) (Y : Ly) (ρ : Nat → Nat) : ∀ (l : List Nat) (P : Int32) (l' : List Nat), plF nu Y ρ P (l ++ l') = plF nu Y ρ (plF nu Y ρ P l) l'
  | [], _, _ => rfl
  | i :: r, P, l' => by rw [List.cons_append, plF, plF, plF_app nu Y ρ r]
/-- the cuts but the one at w -/
def wlX (c : List Nat) (w : Int) : Nat → List Nat
  | 0 => []
  | m + 1 => wlX c w m ++ (if (m : Int) = w then [] else [c.getD m 0])
end BWa
section BWb
variable {sh : List Sh} {f : Nat} {S : St}
/-- what is known of an entry of a gallery -/
def enW (S : St) (g V i : Nat) (d : Dw) : Prop := i < 200 ∧ d.1 < 20 ∧ yOk d.2.1 ∧ d.2.2 ∈ yHg d.2.1 ∧ yV d.2.1 = V ∧ enC S g i d (yL d.2.1) ∧ sA S (g + 10) d.1 = I ((yL d.2.1 / 2 : Nat) - (yN d.2.1 : Int)) ∧ sA S (g + 13) d.1 = I (wrN d.2.1 V) ∧ sA S (g + 14) d.1 = I (pwN d.2.1 V : Nat) ∧ sI S g 16 = I V
theorem enW_sm {T : St} {g V i : Nat} {d : Dw} (h : enW S g V i d) (F : ∀ x, g ≤ x → x ≤ g + 16 → Sm S T x) : enW T g V i d := by
  obtain ⟨h1, h2, h3, h4, h5, h6, h7, h8, h9, h10⟩ := h
  exact ⟨h1, h2, h3, h4, h5, enC_cg h6 ((F (g + 1) (by omega) (by omega)).L i) (fun c c1 c2 => (F (g + c) (by omega) (by omega)).A i) (fun k _ => ⟨(F (g + 6) (by omega) (by omega)).A _, (F (g + 7) (by omega) (by omega)).A _⟩), ((F (g + 10) (by omega) (by omega)).A _).trans h7, ((F (g + 13) (by omega) (by omega)).A _).trans h8, ((F (g + 14) (by omega) (by omega)).A _).trans h9, ((F g (by omega) (by omega)).I 16).trans h10⟩
abbrev aF3 (a : Nat) (S S' : St) : Prop := ∀ x, x ≠ a → x ≠ a + 1 → x ≠ a + 2 → Sm S S' x
theorem c_L122 {a g b e : Nat} {bk : Int} (hb : -1000000000 ≤ bk ∧ bk ≤ 1000000000) (p2 p5 : Int32) (m : Int32) (k32 : St → Int32 → Option St) {be : Nat → Nat} (hbe : ∀ k, k < 4 → be k ≤ 200000000) : ∀ (d k nf : Nat) (T : St), k + d = 4 → d < nf → (∀ j, j < 4 → sL T (a + 2) j = J ((if j < k then be j * (bk % (pQ j : Int)).toNat % pQ j else be j : Nat) : Int)) → ∃ T', F_X7_divideByJoins_L122 sh f a g p2 b e p5 k32 nf T m (J bk) (I k) = k32 T' (m + 1) ∧ (∀ j, j < 4 → sL T' (a + 2) j = J ((be j * (bk % (pQ j : Int)).toNat % pQ j : Nat) : Int)) ∧ ∀ x, x ≠ a + 2 → Sm T T' x := by
  intro d
  induction d with
  | zero =>
    intro k nf T hk hn h
    obtain ⟨nf, rfl⟩ : ∃ e, nf = e + 1 := ⟨nf - 1, by omega⟩
    have : k = 4 := by omega
    subst this
    rw [F_X7_divideByJoins_L122, if_pos (by decide)]
    simp only [bnd]
    exact ⟨T, rfl, fun j hj => by rw [h j hj, if_pos hj], fun _ _ => Sm.rfl⟩
  | succ d ih =>
    intro k nf T hk hn h
    obtain ⟨nf, rfl⟩ : ∃ e, nf = e + 1 := ⟨nf - 1, by omega⟩
    have nb : ¬ (I (k : Int) < 0 ∨ 4 ≤ k) := I_bnd (show k < 4 by omega) (by omega)
    have pb := pQ_b k
    have q : v_tf v_T2 k = I (pQ k : Int) := pQ_tf ⟨k, by omega⟩
    have pz : ¬ J (pQ k : Int) = 0 := by rw [show (0 : Int64) = J 0 from rfl, J_eq (by omega) (by omega)]; omega
    have fm := c_fmod (sh := sh) (f := f) (S := T) (a := bk) (p := (pQ k : Int)) (by omega) (by omega)
    have r0 := Int.emod_nonneg bk (b := (pQ k : Int)) (by omega)
    have r1 := Int.emod_lt_of_pos bk (b := (pQ k : Int)) (by omega)
    have bb := hbe k (by omega)
    obtain ⟨rn, hrn⟩ : ∃ n : Nat, bk % (pQ k : Int) = n := ⟨(bk % (pQ k : Int)).toNat, by omega⟩
    have mb : be k * rn ≤ 200000000 * 1000039 := Nat.mul_le_mul bb (by omega)
    have hk0 : sL T (a + 2) k = J (be k : Nat) := by rw [h k (by omega), if_neg (by omega)]
    rw [F_X7_divideByJoins_L122, if_neg (by rw [show (4 : Int32) = I ((4 : Nat) : Int) from rfl, I_leN (by omega) (by omega)]; omega), I_clN (show k < _ by omega), if_neg nb, q, J_I (by omega)]
    simp only [bnd, if_neg nb, if_neg pz]
    rw [fm, Option.bind_some, hk0, hrn, J_mul, ← Int.natCast_mul, J_rem (by omega) (by omega), I_suc]
    obtain ⟨T', t0, t1, t2⟩ := ih (k + 1) nf (uL T (a + 2) k (J (((be k * rn : Nat) : Int) % (pQ k : Int)))) (by omega) (by omega) (fun j hj => by
      rw [sL_uL, if_pos rfl, up1_if]
      by_cases z : j = k
      · rw [if_pos z, if_pos (by omega), z, hrn]
        rfl
      · rw [if_neg z, h j hj]
        by_cases y : j < k
        · rw [if_pos y, if_pos (by omega)]
        · rw [if_neg y, if_neg (by omega)])
    exact ⟨T', t0, t1, fun x hx => (Sm.rfl.uL hx).trans (t2 x hx)⟩
theorem c_dbj {a g b e V i n : Nat} {d : Dw} {B : Bk} {nu : Nat → Int} (hf : 1000 ≤ f) (en : enW S g V i d) (kb : bkC S b B) (yb : yB d.2.1 = B) (yn : yN d.2.1 = n) (s2 : sI S e 2 = I n) (hn : nuB nu n) (hk : ∀ i, i < n → sA S (e + 2) i = I (nu i)) (dj : ∀ x, x = a ∨ x = a + 1 ∨ x = a + 2 → (x < g ∨ g + 16 < x) ∧ (x < b ∨ b + 9 < x) ∧ x ≠ e ∧ x ≠ e + 2) {w : Int} (hw : -1 ≤ w ∧ w < 3) : ∃ S', F_X7_divideByJoins sh f S a g (I i) b e (I w) = some S' ∧ (∀ k, k < 4 → sL S' (a + 2) k = J (bpN (pQ k) (alN d.2.1 d.2.2) ((wlX (cl d.2.1 d.2.2 (yL d.2.1)) w (cl d.2.1 d.2.2 (yL d.2.1)).length).map (byI nu d.2.1 d.2.2)) : Nat)) ∧ sI S' a 2 = plF nu d.2.1 d.2.2 (sI S a 2) (wlX (cl d.2.1 d.2.2 (yL d.2.1)) w (cl d.2.1 d.2.2 (yL d.2.1)).length) ∧ (∀ x, x ≠ a → x ≠ a + 2 → Sm S S' x) ∧ ∀ j, j ≠ 2 → sI S' a j = sI S a j := by
  obtain ⟨e1, e2, e3, e4, e5, e6, e7, e8, e9, e10⟩ := en
  have w1 := ((yHg_mem e3).mp e4).1
  have ab := obal_b e3 w1
  have nab := yNa_b e3
  have n6 := e3.2.1.2
  generalize hc : cl d.2.1 d.2.2 (yL d.2.1) = c at *
  have c2 : c.length ≤ 2 := by
    have := e6.2.2.2.2.2.1
    rw [hc] at this
    exact this
  have nbi : ¬ (I (i : Int) < 0 ∨ 200 ≤ i) := I_bnd e1 (by omega)
  have icl : (I (i : Int)).toNatClampNeg = i := I_clN (by omega)
  have dj0 := dj a (Or.inl rfl)
  have dj2 := dj (a + 2) (Or.inr (Or.inr rfl))
  have l3 : ∀ (d' k nf : Nat) (T : St), k + d' = 4 → d' < nf → (∀ x, x ≠ a + 2 → Sm S T x) → (∀ j, j < k → sL T (a + 2) j = J (alN d.2.1 d.2.2 : Nat)) → ∃ T', F_X7_divideByJoins_L3 sh f a g (I i) b e (I w) nf T (I k) = F_X7_divideByJoins_L32 sh f a g (I i) b e (I w) f T' 0 ∧ (∀ j, j < 4 → sL T' (a + 2) j = J (alN d.2.1 d.2.2 : Nat)) ∧ ∀ x, x ≠ a + 2 → Sm S T' x := by
    intro d'
    induction d' with
    | zero =>
      intro k nf T hk' hn' F h
      obtain ⟨nf, rfl⟩ : ∃ e, nf = e + 1 := ⟨nf - 1, by omega⟩
      have : k = 4 := by omega
      subst this
      rw [F_X7_divideByJoins_L3, if_pos (by decide)]
      exact ⟨T, rfl, h, F⟩
    | succ d' ih =>
      intro k nf T hk' hn' F h
      obtain ⟨nf, rfl⟩ : ∃ e, nf = e + 1 := ⟨nf - 1, by omega⟩
      have al : sA T (g + 2) i = I (alN d.2.1 d.2.2) := ((F (g + 2) (by omega)).A i).trans e6.2.1
      rw [F_X7_divideByJoins_L3, if_neg (by rw [show (4 : Int32) = I ((4 : Nat) : Int) from rfl, I_leN (by omega) (by omega)]; omega), icl, if_neg nbi, I_clN (show k < _ by omega), if_neg (I_bnd (show k < 4 by omega) (by omega)), al, J_I (by omega)]
      simp only [bnd, I_suc]
      refine ih (k + 1) nf _ (by omega) (by omega) (fun x hx => (F x hx).uL hx) (fun j hj => ?_)
      rw [sL_uL, if_pos rfl, up1_if]
      by_cases z : j = k
      · rw [if_pos z]
      · rw [if_neg z]; exact h j (by omega)
  obtain ⟨A, a0, a1, a2⟩ := l3 4 0 f S (by omega) (by omega) (fun _ _ => Sm.rfl) (fun j hj => by omega)
  have l32 : ∀ (d' m nf : Nat) (T : St), m + d' = c.length → d' < nf → (∀ x, x ≠ a → x ≠ a + 2 → Sm S T x) → (∀ j, j ≠ 2 → sI T a j = sI S a j) → (∀ k, k < 4 → sL T (a + 2) k = J (bpN (pQ k) (alN d.2.1 d.2.2) ((wlX c w m).map (byI nu d.2.1 d.2.2)) : Nat)) → sI T a 2 = plF nu d.2.1 d.2.2 (sI S a 2) (wlX c w m) → ∃ S', F_X7_divideByJoins_L32 sh f a g (I i) b e (I w) nf T (I m) = some S' ∧ (∀ k, k < 4 → sL S' (a + 2) k = J (bpN (pQ k) (alN d.2.1 d.2.2) ((wlX c w c.length).map (byI nu d.2.1 d.2.2)) : Nat)) ∧ sI S' a 2 = plF nu d.2.1 d.2.2 (sI S a 2) (wlX c w c.length) ∧ (∀ x, x ≠ a → x ≠ a + 2 → Sm S S' x) ∧ ∀ j, j ≠ 2 → sI S' a j = sI S a j := by
    intro d'
    induction d' with
    | zero =>
      intro m nf T hm hn' F Fi hb hp
      obtain ⟨nf, rfl⟩ : ∃ e, nf = e + 1 := ⟨nf - 1, by omega⟩
      have : m = c.length := by omega
      subst this
      have c5 : sA T (g + 5) i = I (c.length : Nat) := ((F (g + 5) (by omega) (by omega)).A i).trans (by have := e6.2.2.2.2.1; rw [hc] at this; exact this)
      rw [F_X7_divideByJoins_L32, icl, if_neg nbi, c5, if_pos (by rw [I_leN (by omega) (by omega)]; omega)]
      exact ⟨T, rfl, hb, hp, F, Fi⟩
    | succ d' ih =>
      intro m nf T hm hn' F Fi hb hp
      obtain ⟨nf, rfl⟩ : ∃ e, nf = e + 1 := ⟨nf - 1, by omega⟩
      have c5 : sA T (g + 5) i = I (c.length : Nat) := ((F (g + 5) (by omega) (by omega)).A i).trans (by have := e6.2.2.2.2.1; rw [hc] at this; exact this)
      have sk := e6.2.2.2.2.2.2 m
      rw [hc] at sk
      have sk := sk (by omega)
      have wm : (I (m : Int) = I w) = ((m : Int) = w) := I_eq (by omega) (by omega)
      rw [F_X7_divideByJoins_L32, icl, if_neg nbi, c5, if_neg (by rw [I_leN (by omega) (by omega)]; omega)]
      simp only [wm]
      by_cases z : (m : Int) = w
      · have wx : wlX c w (m + 1) = wlX c w m := by rw [wlX, if_pos z, List.append_nil]
        rw [if_pos z]
        simp only [bnd, I_suc]
        exact ih (m + 1) nf T (by omega) (by omega) F Fi (by rw [wx]; exact hb) (by rw [wx]; exact hp)
      · have wx : wlX c w (m + 1) = wlX c w m ++ [c.getD m 0] := by rw [wlX, if_neg z]
        generalize hx : c.getD m 0 = x at *
        have six : I (i : Int) * (2 : Int32) + I (m : Int) = I ((2 * i + m : Nat) : Int) := by
          rw [show (2 : Int32) = I 2 from rfl, I_mul, I_add]
          congr 1
          omega
        have ixb : ¬ (I ((2 * i + m : Nat) : Int) < 0 ∨ 400 ≤ 2 * i + m) := I_bnd (show 2 * i + m < 400 by omega) (by omega)
        have so : F_X3_sideOf sh f T g (I i) (I m) = some (I (sdN d.2.1 d.2.2 x)) := by
          unfold F_X3_sideOf
          rw [six, I_clN (show 2 * i + m < _ by omega), if_neg ixb, (F (g + 6) (by omega) (by omega)).A, sk.1]
        have sko : F_X3_sideKindOf sh f T g (I i) (I m) = some (I (onN d.2.1 d.2.2 x)) := by
          unfold F_X3_sideKindOf
          rw [six, I_clN (show 2 * i + m < _ by omega), if_neg ixb, (F (g + 7) (by omega) (by omega)).A, sk.2]
        have k8 := e3.1.1.1
        have ok8 := onN_k (ρ := d.2.2) e3 x
        have hv := (kb.2.2.1 (onN d.2.1 d.2.2 x) (by rw [← yb]; exact ok8)).2.1
        have bI := byI_b (ρ := d.2.2) e3 (by rw [yn]; exact hn) x
        have h99 := (e3.1.1.2 _ ok8).2.2
        have sd6 : sdN d.2.1 d.2.2 x < 64 := by
          have := mkb_lt (fun e => decide (pB d.2.1 (d.2.2 e) &&& rcN (lkW d.2.1 d.2.2 x) (pB d.2.1 (d.2.2 0)) ≠ 0)) (yN d.2.1)
          have q : 2 ^ yN d.2.1 ≤ 2 ^ 6 := Nat.pow_le_pow_right (by omega) n6
          have : sdN d.2.1 d.2.2 x < 2 ^ yN d.2.1 := this
          omega
        have fl := c_flow (sh := sh) (f := f) (S := T) (t := e) (n := n) (en := nu) (s := sdN d.2.1 d.2.2 x) hf (by omega) (by omega) (((F e (by omega) (by omega)).I 2).trans s2) (fun i hi => ((F (e + 2) (by omega) (by omega)).A i).trans (hk i hi))
        have hvT : sA T (b + 3) (onN d.2.1 d.2.2 x) = I (bH (yB d.2.1) (onN d.2.1 d.2.2 x)) := by
          rw [yb]
          exact ((F (b + 3) (by omega) (by omega)).A _).trans hv
        have x7 : J (flw nu (sdN d.2.1 d.2.2 x) n) * J (flw nu (sdN d.2.1 d.2.2 x) n) - J (bH (yB d.2.1) (onN d.2.1 d.2.2 x) : Nat) * J (bH (yB d.2.1) (onN d.2.1 d.2.2 x) : Nat) = J (byI nu d.2.1 d.2.2 x) := by
          rw [J_mul, J_mul, J_sub]
          unfold byI
          rw [yn]
        rw [yn] at bI
        have l0 := (lgz (a := byI nu d.2.1 d.2.2 x) (c := 0) (by omega) (by omega)).2.2.2
        have pl : plF nu d.2.1 d.2.2 (sI S a 2) (wlX c w (m + 1)) = if sI T a 2 = -1 ∧ byI nu d.2.1 d.2.2 x = 0 then I (sdN d.2.1 d.2.2 x) else sI T a 2 := by
          rw [wx, plF_app, ← hp, plF, plF]
        have bx : ∀ k, bpN (pQ k) (alN d.2.1 d.2.2) ((wlX c w (m + 1)).map (byI nu d.2.1 d.2.2)) = bpN (pQ k) (alN d.2.1 d.2.2) ((wlX c w m).map (byI nu d.2.1 d.2.2)) * (byI nu d.2.1 d.2.2 x % (pQ k : Int)).toNat % pQ k := fun k => by
          rw [wx, List.map_append, bpN_app, List.map_cons, List.map_nil, bpN, bpN]
        have bb : ∀ k, k < 4 → bpN (pQ k) (alN d.2.1 d.2.2) ((wlX c w m).map (byI nu d.2.1 d.2.2)) ≤ 200000000 := fun k _ => by
          have pb := pQ_b k
          rcases bpN_b (p := pQ k) (by omega) ((wlX c w m).map (byI nu d.2.1 d.2.2)) (alN d.2.1 d.2.2) with h | h <;> omega
        have go : ∀ T1 : St, (∀ x, x ≠ a → Sm T T1 x) → (∀ j, j ≠ 2 → sI T1 a j = sI T a j) → sL T1 (a + 2) = sL T (a + 2) → sI T1 a 2 = plF nu d.2.1 d.2.2 (sI S a 2) (wlX c w (m + 1)) → ∃ S', F_X7_divideByJoins_L122 sh f a g (I i) b e (I w) (F_X7_divideByJoins_L32 sh f a g (I i) b e (I w) nf) f T1 (I m) (J (byI nu d.2.1 d.2.2 x)) 0 = some S' ∧ (∀ k, k < 4 → sL S' (a + 2) k = J (bpN (pQ k) (alN d.2.1 d.2.2) ((wlX c w c.length).map (byI nu d.2.1 d.2.2)) : Nat)) ∧ sI S' a 2 = plF nu d.2.1 d.2.2 (sI S a 2) (wlX c w c.length) ∧ (∀ x, x ≠ a → x ≠ a + 2 → Sm S S' x) ∧ ∀ j, j ≠ 2 → sI S' a j = sI S a j := by
          intro T1 g1 g2 g3 g4
          obtain ⟨U, u0, u1, u2⟩ := c_L122 (sh := sh) (f := f) (a := a) (g := g) (b := b) (e := e) (bk := byI nu d.2.1 d.2.2 x) ⟨bI.1, bI.2.1⟩ (I i) (I w) (I m) (F_X7_divideByJoins_L32 sh f a g (I i) b e (I w) nf) bb 4 0 f T1 (by omega) (by omega) (fun j hj => by rw [if_neg (by omega), g3]; exact hb j hj)
          have u0' : F_X7_divideByJoins_L122 sh f a g (I i) b e (I w) (F_X7_divideByJoins_L32 sh f a g (I i) b e (I w) nf) f T1 (I m) (J (byI nu d.2.1 d.2.2 x)) 0 = _ := u0
          rw [u0', I_suc]
          refine ih (m + 1) nf U (by omega) (by omega) (fun y y0 y2 => ((F y y0 y2).trans (g1 y y0)).trans (u2 y y2)) (fun j hj => by rw [(u2 a (by omega)).I, g2 j hj]; exact Fi j hj) (fun k hk => by rw [u1 k hk, bx k]) (by rw [(u2 a (by omega)).I]; exact g4)
        rw [if_neg z, so, Option.bind_some, fl, Option.bind_some]
        simp only [bnd]
        rw [sko, Option.bind_some, I_clN (show onN d.2.1 d.2.2 x < _ by omega), if_neg (I_bnd (show onN d.2.1 d.2.2 x < 8 by omega) (by omega)), hvT, J_I (by omega), J_I (by omega), x7, show (0 : Int64) = J 0 from rfl]
        simp only [l0]
        by_cases b0 : byI nu d.2.1 d.2.2 x = 0
        · rw [if_pos b0]
          by_cases p1 : sI T a 2 = -1
          · rw [if_pos p1, Option.bind_some]
            refine go _ (fun y hy => Sm.rfl.uI hy) (fun j hj => sI_ne _ _ _ hj) rfl ?_
            rw [sI_self, pl, if_pos ⟨p1, b0⟩]
          · rw [if_neg p1]
            exact go T (fun _ _ => Sm.rfl) (fun _ _ => rfl) rfl (by rw [pl, if_neg (fun q => p1 q.1)])
        · rw [if_neg b0]
          exact go T (fun _ _ => Sm.rfl) (fun _ _ => rfl) rfl (by rw [pl, if_neg (fun q => b0 q.2)])
  have a0' : F_X7_divideByJoins_L3 sh f a g (I i) b e (I w) f S 0 = _ := a0
  unfold F_X7_divideByJoins
  rw [a0']
  exact l32 c.length 0 f A (by omega) (by omega) (fun x _ hx => a2 x hx) (fun j _ => (a2 a (by omega)).I j) (fun k hk => by rw [a1 k hk]; rfl) ((a2 a (by omega)).I 2)
end BWb
