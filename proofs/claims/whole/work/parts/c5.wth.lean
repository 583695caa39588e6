/-! WORTHS of the class: entries, products, settling. -/
section C5a
variable {sh : List Sh} {f g V i : Nat} {S : St}
theorem enW_of {X : NS} {d : Dw} (h : liV S g X V) (hi : (xD X V)[i]? = some d) : enW S g V i d ∧ yB d.2.1 = xB X ∧ yN d.2.1 = xN X := by
  obtain ⟨cc, e1, e2, e3, e4, e5, e6, e7, e8, e9, e10, e11, e12⟩ := enK_of h hi
  have yv : yV d.2.1 = V := by rw [e4]; rfl
  refine ⟨⟨e1, e2, e5, e6, yv, e8, e9.2.2.1, ?_, ?_, e10⟩, by rw [e4]; rfl, by rw [e4]; rfl⟩
  · rw [← yv]; exact e9.2.2.2.2.1
  · rw [← yv]; exact e9.2.2.2.2.2.1
theorem enW_fl {B : Bk} {n : Nat} {ek : Nat → Nat} {d : Dw} (hV : V ≤ 3) (l200 : (dls B n ek V (4 ^ V)).length ≤ 200) (ga : GA S g (dls B n ek V (4 ^ V))) (gg : GG S g B n ek V (4 ^ V)) (hi : (dls B n ek V (4 ^ V))[i]? = some d) : enW S g V i d ∧ yB d.2.1 = B ∧ yN d.2.1 = n := by
  have il := (List.getElem?_eq_some_iff.mp hi).1
  have dm := List.mem_of_getElem? hi
  obtain ⟨cc, a1, a2, a3, a4, a5, a6⟩ := dls_get _ d dm
  have gl := gls_len (B := B) (n := n) (ek := ek) hV
  have dl := (List.getElem?_eq_some_iff.mp a1).1
  obtain ⟨b1, b2, b3, b4⟩ := ga.1 l200
  have gp := (gg.2.2 d.1 cc a1).1
  rw [← a2] at gp
  have yv : yV d.2.1 = V := by rw [a2]; rfl
  refine ⟨⟨by omega, by omega, by rw [a2]; exact a3, by rw [a2]; exact a4, yv, b3 i d hi, gp.2.2.1, ?_, ?_, gg.1⟩, by rw [a2]; rfl, by rw [a2]; rfl⟩
  · rw [← yv]; exact gp.2.2.2.2.1
  · rw [← yv]; exact gp.2.2.2.2.2.1
end C5a
section C5b
variable {sh : List Sh} {f : Nat} {S : St}
theorem c_L63 {a b c : Nat} {ra r1 r2 : Nat → Nat} (hd : b + 1 ≠ a + 1 ∧ c + 1 ≠ a + 1) (k0 : ∀ k, k < 4 → ra k < pQ k ∧ r1 k < pQ k ∧ r2 k < pQ k) (h1 : ∀ k, k < 4 → sL S (b + 1) k = J (r1 k : Nat)) (h2 : ∀ k, k < 4 → sL S (c + 1) k = J (r2 k : Nat)) : ∀ (d k nf : Nat) (T : St), k + d = 4 → d < nf → (∀ x, x ≠ a + 1 → Sm S T x) → (∀ j, j < 4 → sL T (a + 1) j = J ((if j < k then (ra j + r1 j * r2 j) % pQ j else ra j : Nat) : Int)) → ∃ S', F_X7_addProduct_L63 sh f a b c nf T (I k) = some S' ∧ (∀ k, k < 4 → sL S' (a + 1) k = J ((ra k + r1 k * r2 k) % pQ k : Nat)) ∧ ∀ x, x ≠ a + 1 → Sm S S' x := by
  intro d
  induction d with
  | zero =>
    intro k nf T hk hn F g1
    obtain ⟨nf, rfl⟩ : ∃ e, nf = e + 1 := ⟨nf - 1, by omega⟩
    have : k = 4 := by omega
    subst this
    rw [F_X7_addProduct_L63, if_pos (by decide)]
    exact ⟨T, rfl, fun j hj => by rw [g1 j hj, if_pos hj], F⟩
  | succ d ih =>
    intro k nf T hk hn F g1
    obtain ⟨nf, rfl⟩ : ∃ e, nf = e + 1 := ⟨nf - 1, by omega⟩
    have nb : ¬ (I (k : Int) < 0 ∨ 4 ≤ k) := I_bnd (show k < 4 by omega) (by omega)
    have pb := pQ_b k
    have q : (v_tf v_T2 k).toInt64 = J (pQ k : Nat) := by
      rw [show v_tf v_T2 k = I (pQ k : Int) from pQ_tf ⟨k, by omega⟩, J_I (by omega)]
    have pz : ¬ J (pQ k : Int) = 0 := J_z (by omega)
    obtain ⟨u0, u1, u2⟩ := k0 k (by omega)
    have mb : r1 k * r2 k ≤ 1000039 * 1000039 := Nat.mul_le_mul (by omega) (by omega)
    have hka : sL T (a + 1) k = J (ra k : Nat) := by rw [g1 k (by omega), if_neg (by omega)]
    have hk1 : sL T (b + 1) k = J (r1 k : Nat) := ((F (b + 1) hd.1).L k).trans (h1 k (by omega))
    have hk2 : sL T (c + 1) k = J (r2 k : Nat) := ((F (c + 1) hd.2).L k).trans (h2 k (by omega))
    have val : J (ra k : Nat) + J (r1 k : Nat) * J (r2 k : Nat) - (J (ra k : Nat) + J (r1 k : Nat) * J (r2 k : Nat)) / J (pQ k : Nat) * J (pQ k : Nat) = J ((ra k + r1 k * r2 k) % pQ k : Nat) := by
      rw [J_mul, J_add, ← Int.natCast_mul, ← Int.natCast_add, J_rem (by omega) (by omega)]
      rfl
    rw [F_X7_addProduct_L63, if_neg (by rw [show (4 : Int32) = I ((4 : Nat) : Int) from rfl, I_leN (by omega) (by omega)]; omega), I_clN (show k < _ by omega), if_neg nb, if_neg nb, if_neg nb, if_neg nb, q, if_neg pz, if_neg nb, hka, hk1, hk2, val, bnd_e, bnd_e, I_suc]
    refine ih (k + 1) nf _ (by omega) (by omega) (fun x hx => (F x hx).uL hx) (fun j hj => ?_)
    rw [sL_uL, if_pos rfl, up1_if]
    by_cases y : j = k
    · rw [if_pos y, if_pos (by omega), y]
    · rw [if_neg y, g1 j hj]
      by_cases y' : j < k
      · rw [if_pos y', if_pos (by omega)]
      · rw [if_neg y', if_neg (by omega)]
theorem b2I_0 (b : Bool) : (b2I b = 0) = (b = false) := by cases b <;> decide
/-- a product of two parts is added -/
theorem c_apr {a b c : Nat} {ra r1 r2 : Nat → Nat} {P P1 P2 : Int32} {l l1 l2 : Bool} (hf : 1000 ≤ f) (hd : b ≠ a ∧ c ≠ a ∧ b ≠ a + 1 ∧ c ≠ a + 1 ∧ b + 1 ≠ a ∧ c + 1 ≠ a) (k0 : ∀ k, k < 4 → ra k < pQ k ∧ r1 k < pQ k ∧ r2 k < pQ k) (h0 : ∀ k, k < 4 → sL S (a + 1) k = J (ra k : Nat)) (h1 : ∀ k, k < 4 → sL S (b + 1) k = J (r1 k : Nat)) (h2 : ∀ k, k < 4 → sL S (c + 1) k = J (r2 k : Nat)) (p0 : sI S a 2 = P) (p1 : sI S b 2 = P1) (p2 : sI S c 2 = P2) (l0 : sI S a 3 = b2I l) (q1 : sI S b 3 = b2I l1) (q2 : sI S c 3 = b2I l2) : ∃ S', F_X7_addProduct sh f S a b c = some S' ∧ (∀ k, k < 4 → sL S' (a + 1) k = J ((ra k + r1 k * r2 k) % pQ k : Nat)) ∧ sI S' a 2 = (if P = -1 then (if P1 = -1 then P2 else P1) else P) ∧ sI S' a 3 = b2I (l || l1 || l2) ∧ (∀ x, x ≠ a → x ≠ a + 1 → Sm S S' x) ∧ ∀ j, j ≠ 2 → j ≠ 3 → sI S' a j = sI S a j := by
  have fin : ∀ T : St, (∀ x, x ≠ a → Sm S T x) → sL T (a + 1) = sL S (a + 1) → ∃ S', F_X7_addProduct_L63 sh f a b c f T 0 = some S' ∧ (∀ k, k < 4 → sL S' (a + 1) k = J ((ra k + r1 k * r2 k) % pQ k : Nat)) ∧ (∀ j, sI S' a j = sI T a j) ∧ ∀ x, x ≠ a → x ≠ a + 1 → Sm S S' x := fun T F e => by
    obtain ⟨S', s0, s1, s2⟩ := c_L63 (sh := sh) (f := f) (S := T) (a := a) (b := b) (c := c) (ra := ra) (r1 := r1) (r2 := r2) (by omega) k0 (fun k hk => ((F (b + 1) (by omega)).L k).trans (h1 k hk)) (fun k hk => ((F (c + 1) (by omega)).L k).trans (h2 k hk)) 4 0 f T (by omega) (by omega) (fun _ _ => Sm.rfl) (fun j hj => by rw [if_neg (by omega), e]; exact h0 j hj)
    have s0' : F_X7_addProduct_L63 sh f a b c f T 0 = some S' := s0
    exact ⟨S', s0', s1, fun j => (s2 a (by omega)).I j, fun x x0 x1 => (F x x0).trans (s2 x x1)⟩
  have l31 : ∀ T : St, (∀ x, x ≠ a → Sm S T x) → sL T (a + 1) = sL S (a + 1) → sI T a 3 = b2I l → ∃ S', F_X7_addProduct_L31 sh f a b c T = some S' ∧ (∀ k, k < 4 → sL S' (a + 1) k = J ((ra k + r1 k * r2 k) % pQ k : Nat)) ∧ sI S' a 2 = sI T a 2 ∧ sI S' a 3 = b2I (l || l1 || l2) ∧ (∀ x, x ≠ a → x ≠ a + 1 → Sm S S' x) ∧ ∀ j, j ≠ 2 → j ≠ 3 → sI S' a j = sI T a j := fun T F e t3 => by
    have go : ∀ v : Int32, v = b2I (l || l1 || l2) → ∃ S', F_X7_addProduct_L63 sh f a b c f (uI T a 3 v) 0 = some S' ∧ (∀ k, k < 4 → sL S' (a + 1) k = J ((ra k + r1 k * r2 k) % pQ k : Nat)) ∧ sI S' a 2 = sI T a 2 ∧ sI S' a 3 = b2I (l || l1 || l2) ∧ (∀ x, x ≠ a → x ≠ a + 1 → Sm S S' x) ∧ ∀ j, j ≠ 2 → j ≠ 3 → sI S' a j = sI T a j := fun v hv => by
      obtain ⟨S', s0, s1, s2, s3⟩ := fin (uI T a 3 v) (fun x hx => (F x hx).uI hx) e
      exact ⟨S', s0, s1, by rw [s2, sI_ne _ _ _ (by omega)], by rw [s2, sI_self, hv], s3, fun j _ j3 => by rw [s2, sI_ne _ _ _ j3]⟩
    have t1 : sI T b 3 = b2I l1 := ((F b hd.1).I 3).trans q1
    have t2 : sI T c 3 = b2I l2 := ((F c hd.2.1).I 3).trans q2
    unfold F_X7_addProduct_L31
    rw [t3, t1, t2]
    simp only [b2I_0]
    cases l with
    | true => rw [if_neg (by decide), bnd_e]; exact go 1 rfl
    | false =>
      rw [if_pos rfl]
      cases l1 with
      | true => rw [if_neg (by decide), bnd_e]; exact go 1 rfl
      | false =>
        rw [if_pos rfl]
        cases l2 with
        | true => rw [if_neg (by decide), bnd_e]; exact go 1 rfl
        | false => rw [if_pos rfl, bnd_e]; exact go 0 rfl
  have l28 : ∀ v : Int32, v = (if P = -1 then (if P1 = -1 then P2 else P1) else P) → ∃ S', F_X7_addProduct_L28 sh f a b c S a v = some S' ∧ (∀ k, k < 4 → sL S' (a + 1) k = J ((ra k + r1 k * r2 k) % pQ k : Nat)) ∧ sI S' a 2 = (if P = -1 then (if P1 = -1 then P2 else P1) else P) ∧ sI S' a 3 = b2I (l || l1 || l2) ∧ (∀ x, x ≠ a → x ≠ a + 1 → Sm S S' x) ∧ ∀ j, j ≠ 2 → j ≠ 3 → sI S' a j = sI S a j := fun v hv => by
    unfold F_X7_addProduct_L28
    rw [bnd_e]
    obtain ⟨S', s0, s1, s2, s3, s4, s5⟩ := l31 (uI S a 2 v) (fun x hx => Sm.rfl.uI hx) rfl (by rw [sI_ne _ _ _ (by omega)]; exact l0)
    exact ⟨S', s0, s1, by rw [s2, sI_self, hv], s3, s4, fun j j2 j3 => by rw [s5 j j2 j3, sI_ne _ _ _ j2]⟩
  unfold F_X7_addProduct
  rw [p0, p1, p2]
  by_cases x : P = -1
  · rw [if_pos x]
    by_cases y : P1 = -1
    · rw [if_pos y]; exact l28 P2 (by rw [if_pos x, if_pos y])
    · rw [if_neg y]; exact l28 P1 (by rw [if_pos x, if_neg y])
  · rw [if_neg x]
    obtain ⟨S', s0, s1, s2, s3, s4, s5⟩ := l31 S (fun _ _ => Sm.rfl) rfl l0
    exact ⟨S', s0, s1, by rw [s2, p0, if_neg x], s3, s4, s5⟩
/-- settling: a pole, nothing found, or the answer stands -/
theorem c_set {a w : Nat} {r : Nat → Nat} {P : Int32} {lb : Bool} (hf : 1000 ≤ f) (h : ∀ k, k < 4 → r k < pQ k) (h1 : ∀ k, k < 4 → sL S (a + 1) k = J (r k : Nat)) (h2 : sI S a 2 = P) (h3 : sI S a 3 = b2I lb) (r13 : sR S 0 13 = some a) (r12 : sR S 0 12 = some w) (ca : ckX7 sh a = true) (cw : ckX7 sh w = true) : F_X8_settle sh f S 0 = some (if P = -1 then (if lb = false ∧ fnd r = true then (0, uI (uR (uR (uJ (uJ S a 4 (J (fT r))) a 5 (J (fU r : Nat))) 0 12 (some a)) 0 13 (some w)) 0 15 1) else (6, S)) else (5, uI S 0 17 P)) := by
  have ff := c_ff (sh := sh) hf h h1 h3
  unfold F_X8_settle
  rw [r13, Option.bind_some, if_pos ca, h2]
  by_cases p : P = -1
  · rw [if_pos p, if_pos p, Option.bind_some, if_pos ca, ff, Option.bind_some]
    by_cases q : lb = false ∧ fnd r = true
    · rw [if_pos q, if_pos q]
      have c12 : sR (uJ (uJ S a 4 (J (fT r))) a 5 (J (fU r : Nat))) 0 12 = some w := r12
      have c13 : sR (uJ (uJ S a 4 (J (fT r))) a 5 (J (fU r : Nat))) 0 13 = some a := r13
      rw [if_neg (show ¬ (1 : Int32) = 0 by decide), c12, Option.bind_some, if_pos cw, c13, Option.bind_some, if_pos ca, bnd_e, bnd_e, bnd_e]
    · rw [if_neg q, if_neg q, if_pos rfl]
  · rw [if_neg p, if_neg p, Option.bind_some, if_pos ca, bnd_e, h2]
end C5b
