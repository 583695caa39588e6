/-! PARTED: the reference's rests. -/
section CQx
variable {sh : List Sh} {f : Nat} {S : St} {q : Nat} {B : Bk} {N F : En} {le : Nat → Int}
theorem r_358 {v v2 o : Nat} {b : Bool} {acc : Nat → Nat} (hf : 1000 ≤ f) (c : rCx sh S q B N F le) (a1 a2 : Int32) (k314 : St → Int32 → Int32 → Option (Int32 × St)) (ha : ∀ j, j < 4 → acc j < pQ j) : ∀ (d k nf : Nat) (T : St) (fl : Bool), k + d = 4 → d < nf → rP S T N F → rW sh T 118 q B N.1 N.2.1 N.2.2 v → rW sh T 125 q B F.1 F.2.1 F.2.2 v2 → fl = (b || (List.range k).any (fun j => eZ B N v j || eZ B F v2 j)) → (fl = false → ∀ j, j < 4 → sA T 155 j = I ((if j < k then (acc j + eR B N le v j * eR B F le v2 j) % pQ j else acc j : Nat) : Int)) → ∃ T', F_X12_parted_L358 sh f 94 a1 a2 (I o) k314 nf T (b2I fl) (I v) (I k) = k314 T' (b2I (b || eL B N v || eL B F v2)) (I ((v + 1 : Nat) : Int)) ∧ rP S T' N F ∧ ((b || eL B N v || eL B F v2) = false → ∀ j, j < 4 → sA T' 155 j = I ((acc j + eR B N le v j * eR B F le v2 j) % pQ j : Nat)) := by
  have c' := c
  obtain ⟨c1, c2, c3, c4, c5, c6, c7, c8, c9, c10, c11, c12⟩ := c'
  intro d
  induction d with
  | zero =>
    intro k nf T fl h1 h2 hP w1 w2 e g
    obtain ⟨nf, rfl⟩ : ∃ e, nf = e + 1 := ⟨nf - 1, by omega⟩
    have : k = 4 := by omega
    subst this
    rw [any_or, ← eL_z, ← eL_z, ← Bool.or_assoc] at e
    rw [F_X12_parted_L358, if_pos (by decide), bnd_e, I_suc, e]
    rw [e] at g
    exact ⟨T, rfl, hP, fun z j hj => by rw [g z j hj, if_pos hj]⟩
  | succ d ih =>
    intro k nf T fl h1 h2 hP w1 w2 e g
    obtain ⟨nf, rfl⟩ : ∃ e, nf = e + 1 := ⟨nf - 1, by omega⟩
    have pb := pQ_b k
    have k4 : k < 4 := by omega
    have nb : ¬ (I (k : Int) < 0 ∨ 4 ≤ k) := I_bnd k4 (by omega)
    have l0 : ∀ W : St, rN S W → ∀ l, l < 3 → -99 ≤ le l ∧ le l ≤ 99 ∧ sA W 110 l = I (le l) := fun W h l hl => ⟨(c12 l hl).1, (c12 l hl).2.1, ((h.2.2.1 110 (by omega) (by omega)).A l).trans (c12 l hl).2.2⟩
    obtain ⟨U, u0, u1⟩ := r_restOf (sh := sh) (f := f) (S := T) (le := le) (sd := 0) (kd := 0) (k := k) hf w1 c10 (l0 T hP.1) (by omega) (by omega) k4 (-1) (-1) (Or.inl ⟨rfl, rfl⟩)
    have PU : rP S U N F := rP_tf hP (u1.mono (fun j hj => hj) (fun x hx => by simp only [List.mem_cons, List.not_mem_nil, or_false] at hx ⊢; omega))
    have w1U := rW_fr w1 u1
    have w2U := rW_fr w2 u1
    obtain ⟨W, v0, v1⟩ := r_restOf (sh := sh) (f := f) (S := U) (le := le) (sd := 0) (kd := 0) (k := k) hf w2U c11 (l0 U PU.1) (by omega) (by omega) k4 (-1) (-1) (Or.inl ⟨rfl, rfl⟩)
    have PW : rP S W N F := rP_tf PU (v1.mono (fun j hj => hj) (fun x hx => by simp only [List.mem_cons, List.not_mem_nil, or_false] at hx ⊢; omega))
    have w1W := rW_fr w1U v1
    have w2W := rW_fr w2U v1
    have S5 : ∀ j, sA W 155 j = sA T 155 j := fun j => ((tF_c v1 (by omega) (by omega)).A j).trans ((tF_c u1 (by omega) (by omega)).A j)
    have u0' : F_X12_restOf sh f T 94 (94 + 24) (I (pQ k : Nat)) (-1) (-1) = some (if eZ B N v k = true then -1 else I (eR B N le v k : Nat), U) := u0
    have v0' : F_X12_restOf sh f U 94 (94 + 31) (I (pQ k : Nat)) (-1) (-1) = some (if eZ B F v2 k = true then -1 else I (eR B F le v2 k : Nat), W) := v0
    have rn : eR B N le v k < pQ k := rsL_lt _ _ (by omega)
    have rf : eR B F le v2 k < pQ k := rsL_lt _ _ (by omega)
    have n1 : ∀ r : Nat, r < pQ k → ¬ I (r : Int) = (-1 : Int32) := fun r hr => by
      rw [show (-1 : Int32) = I (-1) from rfl, I_eq (by omega) (by omega)]
      omega
    -- what is added
    have tail : ∀ x4 x7 : Int32, (fl || eZ B N v k || eZ B F v2 k) = false ∧ x4 = I (eR B N le v k : Nat) ∧ x7 = I (eR B F le v2 k : Nat) ∨ (fl || eZ B N v k || eZ B F v2 k) = true → ∃ T', F_X12_parted_L420 sh f 94 a1 a2 (I o) (F_X12_parted_L358 sh f 94 a1 a2 (I o) k314 nf) W (I v) (I k) x4 x7 (b2I (fl || eZ B N v k || eZ B F v2 k)) = k314 T' (b2I (b || eL B N v || eL B F v2)) (I ((v + 1 : Nat) : Int)) ∧ rP S T' N F ∧ ((b || eL B N v || eL B F v2) = false → ∀ j, j < 4 → sA T' 155 j = I ((acc j + eR B N le v j * eR B F le v2 j) % pQ j : Nat)) := fun x4 x7 hx => by
      have kp : (I (pQ k : Nat) : Int32).toInt64 = J (pQ k : Nat) := J_I (by omega)
      have zp : ¬ J (pQ k : Int) = 0 := J_z (by omega)
      unfold F_X12_parted_L420
      rw [I_clN (show k < _ by omega), if_neg nb, r_prm k4, Option.bind_some, kp, if_neg zp, if_neg nb, bnd_e, bnd_e, I_suc]
      have cx : ∀ x, 118 ≤ x → x ≤ 131 → ∀ y, Sm W (uA W (94 + 61) k y) x := fun x _ _ y => (by repeat' (first | exact Sm.rfl | (refine Sm.uI ?_ (by omega)) | (refine Sm.uA ?_ (by omega)) | (refine Sm.uJ ?_ (by omega)) | (refine Sm.uL ?_ (by omega)) | (refine Sm.uR ?_ (by omega))))
      have NV : ∀ y, rN W (uA W (94 + 61) k y) := fun y => rN_sm (fun x hx => (by repeat' (first | exact Sm.rfl | (refine Sm.uI ?_ (by omega)) | (refine Sm.uA ?_ (by omega)) | (refine Sm.uJ ?_ (by omega)) | (refine Sm.uL ?_ (by omega)) | (refine Sm.uR ?_ (by omega)))))
      refine ih (k + 1) nf _ (fl || eZ B N v k || eZ B F v2 k) (by omega) (by omega) ⟨PW.1.trans (NV _), enA_sm PW.2.1 (fun x a b => cx x (by omega) (by omega) _), enA_sm PW.2.2 (fun x a b => cx x (by omega) (by omega) _)⟩ (rW_sm w1W (fun x a b => cx x (by omega) (by omega) _) rfl (rN_bk (NV _) c3 w1W.2.2.2.2.1)) (rW_sm w2W (fun x a b => cx x (by omega) (by omega) _) rfl (rN_bk (NV _) c3 w1W.2.2.2.2.1)) ?_ (fun z j hj => ?_)
      · rw [List.range_succ, List.any_append, List.any_cons, List.any_nil, Bool.or_false, e, Bool.or_assoc, Bool.or_assoc]
      · rcases hx with ⟨_, hx4, hx7⟩ | hx
        · have fz : fl = false := by
            cases fl with
            | false => rfl
            | true => exact absurd z (by simp)
          have aj := ha j hj
          have pj := pQ_b j
          rw [sA_uA, if_pos rfl, up1_if]
          by_cases y : j = k
          · subst y
            have m1 := Nat.mul_le_mul (show eR B N le v j ≤ 1000039 by omega) (show eR B F le v2 j ≤ 1000039 by omega)
            have ml : (acc j + eR B N le v j * eR B F le v2 j) % pQ j < pQ j := Nat.mod_lt _ (by omega)
            have a5 : sA W (94 + 61) j = I (acc j : Nat) := by
              have := (S5 j).trans (g fz j hj)
              rw [if_neg (show ¬ j < j by omega)] at this
              exact this
            rw [if_pos rfl, if_pos (by omega), a5, hx4, hx7, J_I (by omega), J_I (by omega), J_I (by omega), J_mul, J_add, ← Int.natCast_mul, ← Int.natCast_add, J_rem (by omega) (by omega), ← Int.natCast_emod, J_to32 (by omega)]
          · rw [if_neg y, S5, g fz j hj]
            by_cases y' : j < k
            · rw [if_pos y', if_pos (by omega)]
            · rw [if_neg y', if_neg (by omega)]
        · rw [hx] at z
          exact absurd z (by decide)
    rw [F_X12_parted_L358, if_neg (by rw [show (4 : Int32) = I ((4 : Nat) : Int) from rfl, I_leN (by omega) (by omega)]; omega), r_prm k4, Option.bind_some, u0', Option.bind_some, bnd_e, r_prm k4, Option.bind_some, v0', Option.bind_some, bnd_e]
    simp only [b2I_0]
    by_cases fz : fl = false
    · rw [if_pos fz]
      by_cases zn : eZ B N v k = true
      · have et : (fl || eZ B N v k || eZ B F v2 k) = true := by rw [zn, Bool.or_true, Bool.true_or]
        have tl := tail (-1) (if eZ B F v2 k = true then -1 else I (eR B F le v2 k : Nat)) (Or.inr et)
        rw [et] at tl
        rw [if_pos zn, if_pos rfl]
        exact tl
      · rw [if_neg zn, if_neg (n1 _ rn)]
        by_cases zf : eZ B F v2 k = true
        · have et : (fl || eZ B N v k || eZ B F v2 k) = true := by rw [zf, Bool.or_true]
          have tl := tail (I (eR B N le v k : Nat)) (-1) (Or.inr et)
          rw [et] at tl
          rw [if_pos zf, if_pos rfl]
          exact tl
        · have et : (fl || eZ B N v k || eZ B F v2 k) = false := by rw [fz, Bool.eq_false_iff.mpr zn, Bool.eq_false_iff.mpr zf]; rfl
          have tl := tail (I (eR B N le v k : Nat)) (I (eR B F le v2 k : Nat)) (Or.inl ⟨et, rfl, rfl⟩)
          rw [et] at tl
          rw [if_neg zf, if_neg (n1 _ rf)]
          exact tl
    · have ft : fl = true := by
        cases fl with
        | false => exact absurd rfl fz
        | true => rfl
      have et : (fl || eZ B N v k || eZ B F v2 k) = true := by rw [ft, Bool.true_or, Bool.true_or]
      have tl := tail (if eZ B N v k = true then -1 else I (eR B N le v k : Nat)) (if eZ B F v2 k = true then -1 else I (eR B F le v2 k : Nat)) (Or.inr et)
      rw [et] at tl
      rw [if_neg fz]
      exact tl
end CQx
