/-! WHOLE; what whole and parted are refused by. -/
section CMx
variable {sh : List Sh} {f : Nat} {S : St} {p : PC} {q : Option Nat} {w : Nat} {X : NS}
def eqR (S T : St) : Prop := sI T 94 17 = sI S 94 17 ∧ (∀ j, sR T 94 j = sR S 94 j) ∧ ∀ x, 95 ≤ x → Sm S T x
theorem sdV_ex {n : Nat} {x : Int32} (n6 : n ≤ 6) : sdV n x = 0 ∨ sdV n x = 1 ∧ ∃ s : Nat, x = I s ∧ s < 64 ∧ s < 2 ^ n ∧ s % 2 = 1 ∧ 2 ≤ popN n s ∧ popN n s + 2 ≤ n := by
  have p6 : 2 ^ n ≤ 2 ^ 6 := Nat.pow_le_pow_right (by omega) n6
  unfold sdV
  by_cases c : 0 ≤ x.toInt ∧ x.toInt < 2 ^ n ∧ x.toInt % 2 = 1 ∧ 2 ≤ popN n x.toInt.toNat ∧ popN n x.toInt.toNat + 2 ≤ n
  · right
    rw [if_pos c]
    obtain ⟨c1, c2, c3, c4, c5⟩ := c
    have c2' : ((x.toInt.toNat : Nat) : Int) < ((2 ^ n : Nat) : Int) := by
      rw [Int.toNat_of_nonneg c1]
      exact_mod_cast c2
    exact ⟨rfl, x.toInt.toNat, by rw [Int.toNat_of_nonneg c1]; exact I_of x, by omega, by omega, by omega, c4, c5⟩
  · left
    rw [if_neg c]
theorem st_cut (hf : 1000 ≤ f) (h : inv0 sh S p q w X) (s k o : Int32) : (F_X8_cutRefusal sh f S 0 s k o = some 1 ∧ ∀ T, eqR S T → (F_X12_isSide sh f T 94 s = some 0 ∨ F_X12_isSide sh f T 94 s = some 1 ∧ F_X12_isKind sh f T 94 k = some 0)) ∨ (F_X8_cutRefusal sh f S 0 s k o = some 2 ∧ ∀ T, eqR S T → F_X12_isSide sh f T 94 s = some 1 ∧ F_X12_isKind sh f T 94 k = some 1 ∧ F_X12_in sh f T o 2 3 = some 0 ∧ sI T 94 17 ≠ 0) ∨ ∃ sd k0 V : Nat, s = I sd ∧ k = I k0 ∧ o = I V ∧ xN X ≠ 0 ∧ sd < 64 ∧ sd < 2 ^ xN X ∧ sd % 2 = 1 ∧ 2 ≤ popN (xN X) sd ∧ popN (xN X) sd + 2 ≤ xN X ∧ k0 < bK (xB X) ∧ (2 ≤ V ∧ V ≤ 3) ∧ F_X8_cutRefusal sh f S 0 s k o = some 0 ∧ ∀ T, eqR S T → F_X12_isSide sh f T 94 s = some 1 ∧ F_X12_isKind sh f T 94 k = some 1 ∧ F_X12_in sh f T o 2 3 = some 1 := by
  obtain ⟨e1, e2, e3, e4, e5⟩ := h.2.2.2.2.2.2.2.1
  have x6 : xN X ≤ 6 := e1
  have e2' : sI S (0 + 44) 2 = I (xN X) := e2
  have cs := c_isSide (sh := sh) (f := f) (S := S) (t := 44) e1 e2 s
  have cs' : F_X1_isSide sh f S (0 + 44) s = _ := cs
  have rs : ∀ T, eqR S T → F_X12_isSide sh f T 94 s = some (sdV (xN X) s) := fun T g => r_isSide hf e1 (g.1.trans e3) s
  have cb := pc0 h
  have bo := h.2.2.2.2.2.2.1
  have k8 : bK (xB X) ≤ 8 := bo.1.1.1
  have k9 : sI S p.1 9 = I (bK (xB X)) := bo.2.1.1
  unfold F_X8_cutRefusal
  rw [e2']
  by_cases n0 : xN X = 0
  · left
    rw [n0, if_pos (show I ((0 : Nat) : Int) = (0 : Int32) from rfl)]
    refine ⟨rfl, fun T g => Or.inl ?_⟩
    rw [rs T g]
    rcases sdV_ex (x := s) x6 with a | ⟨_, s', _, _, _, _, b, c⟩
    · rw [a]
    · omega
  · have n0' : ¬ I ((xN X : Nat) : Int) = (0 : Int32) := by
      rw [show (0 : Int32) = I ((0 : Nat) : Int) from rfl, I_eqN (by omega) (by omega)]
      exact n0
    rw [if_neg n0', cs', Option.bind_some]
    rcases sdV_ex (x := s) x6 with a | ⟨a, sd, a1, a2, a3, a4, a5, a6⟩
    · left
      rw [a, if_pos rfl]
      exact ⟨rfl, fun T g => Or.inl (by rw [rs T g, a])⟩
    · obtain ⟨zz, hz, ck, qo, kr⟩ := q_some h n0
      have r5 : ∀ T, eqR S T → sR T 94 5 = some zz := fun T g => (g.2.1 5).trans (h.2.2.2.1.1.trans hz)
      have k0' : ∀ T, eqR S T → sI T zz 0 = I (bK (xB X)) := fun T g => ((g.2.2 zz (by unfold qOk at qo; omega)).I 0).trans kr.1
      rw [a, if_neg (show ¬ (1 : Int32) = 0 by decide), h.2.1.1, Option.bind_some, if_pos cb]
      unfold F_X0_hasKind
      rw [k9]
      have nk : (k < 0 ∨ ¬ k < 0 ∧ I (bK (xB X)) ≤ k) → ∀ T, eqR S T → F_X12_isKind sh f T 94 k = some 0 := fun hb T g => by
        unfold F_X12_isKind
        rw [r5 T g]
        simp only [oN, Option.bind_some, if_pos ck, k0' T g]
        rcases hb with c | ⟨c, d⟩
        · rw [if_pos c]
        · rw [if_neg c, if_pos d]
      by_cases c1 : k < 0
      · left
        rw [if_pos c1, Option.bind_some, if_pos rfl]
        exact ⟨rfl, fun T g => Or.inr ⟨by rw [rs T g, a], nk (Or.inl c1) T g⟩⟩
      · by_cases c2 : I (bK (xB X)) ≤ k
        · left
          rw [if_neg c1, if_pos c2, Option.bind_some, if_pos rfl]
          exact ⟨rfl, fun T g => Or.inr ⟨by rw [rs T g, a], nk (Or.inr ⟨c1, c2⟩) T g⟩⟩
        · have yk : ∀ T, eqR S T → F_X12_isKind sh f T 94 k = some 1 := fun T g => by
            unfold F_X12_isKind
            rw [r5 T g]
            simp only [oN, Option.bind_some, if_pos ck, k0' T g]
            rw [if_neg c1, if_neg c2]
          have ke : ∃ k0 : Nat, k = I k0 ∧ k0 < bK (xB X) := by
            obtain ⟨z, rfl, hz⟩ := I_ex k
            rw [show (0 : Int32) = I 0 from rfl, I_lt hz (by omega)] at c1
            rw [I_le (by omega) hz] at c2
            exact ⟨z.toNat, by rw [Int.toNat_of_nonneg (by omega)], by omega⟩
          obtain ⟨k0, ke1, ke2⟩ := ke
          rw [if_neg c1, if_neg c2, Option.bind_some, if_neg (show ¬ (1 : Int32) = 0 by decide)]
          have s17 : ∀ T, eqR S T → sI T 94 17 ≠ 0 := fun T g => by
            rw [g.1, e3]
            exact n0'
          by_cases d1 : o < 2
          · right; left
            rw [if_pos d1]
            exact ⟨rfl, fun T g => ⟨by rw [rs T g, a], yk T g, by unfold F_X12_in; rw [if_pos d1], s17 T g⟩⟩
          · by_cases d2 : o ≤ 3
            · right; right
              obtain ⟨y, hy, y1, y2⟩ := inx (a := 2) (b := 3) (by omega) (by omega) d1 d2
              refine ⟨sd, k0, y.toNat, a1, ke1, by rw [Int.toNat_of_nonneg (by omega)]; exact hy, n0, a2, a3, a4, a5, a6, ke2, by omega, ?_, fun T g => ⟨by rw [rs T g, a], yk T g, ?_⟩⟩
              · rw [if_neg d1, if_pos d2]
              · unfold F_X12_in
                rw [if_neg d1, if_neg (by rw [I_nlt]; exact d2)]
            · right; left
              rw [if_neg d1, if_neg d2]
              exact ⟨rfl, fun T g => ⟨by rw [rs T g, a], yk T g, by unfold F_X12_in; rw [if_neg d1, if_pos (by rw [← I_nle]; exact d2)], s17 T g⟩⟩
theorem eqR_0 (z : Int32) : eqR S (uI (uI S 0 16 z) 94 0 0) := ⟨by rw [sI_ne _ _ _ (by omega), sI_row _ _ _ (by omega)], fun _ => rfl, fun x hx => Sm.trans (uI_o (show x ≠ 0 by omega)) (uI_o (show x ≠ 94 by omega))⟩
theorem st_whole (h : inv sh S p q w X) (hf : 20000 ≤ f) (s k o : Int32) : ∃ v S1 S2 p', F_X8_whole sh f S 0 s k o = some (v, S1) ∧ F_X12_whole sh f S1 94 s k o = some (v, S2) ∧ inv sh S2 p' q w X := by
  have h0 := h.1
  have cb := pc0 h0
  have bo := h0.2.2.2.2.2.2.1
  have k8 : bK (xB X) ≤ 8 := bo.1.1.1
  have rej : ∀ z : Int32, z ≠ 0 → z ≠ 4 ∧ z ≠ 5 → F_X8_cutRefusal sh f S 0 s k o = some z → F_X12_whole sh f (uI S 0 16 z) 94 s k o = some (0, rfS S z) → ∃ v S1 S2 p', F_X8_whole sh f S 0 s k o = some (v, S1) ∧ F_X12_whole sh f S1 94 s k o = some (v, S2) ∧ inv sh S2 p' q w X := by
    intro z z0 z1 a b
    refine ⟨0, uI S 0 16 z, rfS S z, p, ?_, b, inv_rf h z1⟩
    unfold F_X8_whole
    rw [a, Option.bind_some, if_neg z0, c_alw', if_neg z0]
  have n01 : ¬ ¬ ((0 : Int32) = 0 ∨ (0 : Int32) = 1) := fun x => x (Or.inl rfl)
  rcases st_cut (f := f) (by omega) h0 s k o with ⟨a, b⟩ | ⟨a, b⟩ | ⟨sd, k0, V, rfl, rfl, rfl, n0, s6, s2, so, sp1, sp2, kb, hV, a, b⟩
  · refine rej 1 (by decide) (by decide) a ?_
    unfold F_X12_whole
    rw [bnd_e]
    rcases b _ (eqR_0 1) with c | ⟨c, d⟩
    · rw [c, Option.bind_some, if_pos rfl, r_den1]
    · rw [c, Option.bind_some, if_neg (show ¬ (1 : Int32) = 0 by decide), d, Option.bind_some, if_pos rfl, r_den1]
  · refine rej 2 (by decide) (by decide) a ?_
    obtain ⟨c1, c2, c3, c4⟩ := b _ (eqR_0 2)
    unfold F_X12_whole F_X12_tells
    rw [bnd_e, c1, Option.bind_some, if_neg (show ¬ (1 : Int32) = 0 by decide), c2, Option.bind_some, if_neg (show ¬ (1 : Int32) = 0 by decide), if_neg c4, c3, Option.bind_some, if_pos rfl, r_den1, Option.bind_some, if_neg n01]
  · have hV' : 1 ≤ V ∧ V ≤ 3 := by omega
    have kF : bF (xB X) k0 < bK (xB X) := (bo.1.1.2 k0 kb).1
    have ofk : F_X0_ofKind sh f S p.1 (I k0) 0 = some (I (bF (xB X) k0)) := by
      rw [c_kind bo.2.1 bo.1]
      unfold spKind
      rw [if_neg, if_pos rfl, I_clN (by omega)]
      rintro (c | c)
      · rw [show (0 : Int32) = I ((0 : Nat) : Int) from rfl, I_ltN (by omega) (by omega)] at c
        omega
      · have c' : I (bK (xB X) : Int) ≤ I k0 := c
        rw [I_leN (by omega) (by omega)] at c'
        omega
    obtain ⟨S1, s0, s1⟩ := c_rw (sh := sh) (f := f) (V := V) (sd := sd) (kd := bF (xB X) k0) (kx := I (bF (xB X) k0)) hf h hV' n0 s6 (by omega) (Or.inr rfl)
    obtain ⟨S2, t0, t1⟩ := r_tl (sh := sh) (f := f) (V := V) (sd := sd) (kd := bF (xB X) k0) (k0 := k0) (a1 := I sd) (a2 := I k0) (b4 := 2) hf h0 hV' n0 s6 (Or.inr ⟨by omega, rfl, rfl, kb, rfl⟩) (fun T => by
      unfold F_X12_in
      rw [if_neg (by rw [show (2 : Int32) = I ((2 : Nat) : Int) from rfl, I_ltN (by omega) (by omega)]; omega), if_neg (by rw [show (3 : Int32) = I ((3 : Nat) : Int) from rfl, I_ltN (by omega) (by omega)]; omega)]) (uI S1 0 16 (wCd (xB X) (xN X) (xE X) (xU X) (xL X) V sd (bF (xB X) k0))) (cAns_94 h0.2.2.1 s1)
    obtain ⟨p', e⟩ := st_end h wCd_4 (fun _ k hk => rsL_lt _ _ (by have := pQ_b k; omega)) s1 t1
    have c94 := cAns_94 h0.2.2.1 s1
    have g : eqR S (uI (uI S1 0 16 (wCd (xB X) (xN X) (xE X) (xU X) (xL X) V sd (bF (xB X) k0))) 94 0 0) := ⟨by rw [sI_ne _ _ _ (by omega), (c94 94 (by omega)).I], fun j => (c94 94 (by omega)).R j, fun x hx => (c94 x (by omega)).trans (uI_o (by omega))⟩
    obtain ⟨c1, c2, _⟩ := b _ g
    refine ⟨if wCd (xB X) (xN X) (xE X) (xU X) (xL X) V sd (bF (xB X) k0) = 0 then 1 else 0, uI S1 0 16 (wCd (xB X) (xN X) (xE X) (xU X) (xL X) V sd (bF (xB X) k0)), S2, p', ?_, ?_, e⟩
    · unfold F_X8_whole
      rw [a, Option.bind_some, if_pos rfl, h0.2.1.1, Option.bind_some, if_pos cb, ofk, Option.bind_some, s0, Option.bind_some, bnd_e, c_alw']
    · unfold F_X12_whole
      rw [bnd_e, c1, Option.bind_some, if_neg (show ¬ (1 : Int32) = 0 by decide), c2, Option.bind_some, if_neg (show ¬ (1 : Int32) = 0 by decide), t0, Option.bind_some, if01]
end CMx
