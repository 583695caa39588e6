/-! RESTS of the reference: what a drawing is divided by. -/
section CBx
variable {sh : List Sh} {f : Nat} {S : St} {q : Nat}
theorem bpN_lt {p : Nat} (hp : 0 < p) : ∀ (l : List Int) (a : Nat), a < p → bpN p a l < p
  | [], _, h => h
  | b :: l, a, _ => by rw [bpN]; exact bpN_lt hp l _ (Nat.mod_lt _ hp)
theorem r_rs172 {Y : Ly} {ρ : Nat → Nat} {p1 k : Nat} {nu : Nat → Int} (hf : 1000 ≤ f) (ok : yOk Y) (w : yRw Y ρ) (c : cn Y ρ) (hn : nuB nu (yN Y)) (h : shC sh S Y ρ q) (hp : p1 ≠ 136) (hp2 : p1 + 2 ≠ 136) (s2 : sI S p1 2 = I (yN Y)) (hk : ∀ e, e < yN Y → sA S (p1 + 2) e = I (nu e)) (a3 a4 : Int32) (k6 : St → Int64 → Int32 → Option (Int32 × St)) {wi : Int} (hw : -1 ≤ wi ∧ wi < 12) (i : Nat) {acc t : Nat} (ha : acc < pQ k) (ht : t < pQ k) : ∀ (d m nf : Nat) (T : St) (u : Nat), m + d = yL Y → d < nf → u < pQ k → (∀ x, x ≠ 136 → Sm S T x) → ∃ S', F_X12_restOf_L172 sh f 94 p1 (I (pQ k : Nat)) a3 a4 k6 nf T (J acc) (I i) (I wi) (J t) (J u) (I m) = (if bpN (pQ k) u ((lgs Y ρ wi d m).map (byI nu Y ρ)) = 0 then some (-1, S') else k6 S' (J ((acc + t * ivN (bpN (pQ k) u ((lgs Y ρ wi d m).map (byI nu Y ρ))) (pQ k)) % pQ k : Nat)) (I ((i + 1 : Nat) : Int))) ∧ ∀ x, x ≠ 136 → Sm S S' x := by
  have L12 := ok.2.2.2.2.2.2.1
  have pb := pQ_b k
  have kp : (I (pQ k : Nat) : Int32).toInt64 = J (pQ k : Nat) := J_I (by omega)
  have zp : ¬ J (pQ k : Int) = 0 := J_z (by omega)
  intro d
  induction d with
  | zero =>
    intro m nf T u h1 h2 hu F
    obtain ⟨nf, rfl⟩ : ∃ e, nf = e + 1 := ⟨nf - 1, by omega⟩
    have l0 := (lgz (a := (u : Int)) (c := 0) (by omega) (by omega)).2.2.2
    rw [F_X12_restOf_L172, (shC_sm h F).1.1, if_pos (by rw [I_leN (by omega) (by omega)]; omega), lgs, List.map_nil, bpN, show (0 : Int64) = J 0 from rfl]
    simp only [l0]
    by_cases z : u = 0
    · rw [if_pos (by omega)]
      exact ⟨T, by rw [if_pos z], F⟩
    · have iv := r_inv' (sh := sh) (S := T) hf (p := pQ k) (x := u) (by omega) hu
      have il := ivN_lt u (p := pQ k) (by omega)
      have mb : t * ivN u (pQ k) ≤ 1000039 * 1000039 := Nat.mul_le_mul (by omega) (by omega)
      have ki : (I (ivN u (pQ k) : Nat) : Int32).toInt64 = J (ivN u (pQ k) : Nat) := J_I (by omega)
      have val : J acc + J t * J (ivN u (pQ k) : Nat) - (J acc + J t * J (ivN u (pQ k) : Nat)) / J (pQ k : Nat) * J (pQ k : Nat) = J ((acc + t * ivN u (pQ k)) % pQ k : Nat) := by
        rw [J_mul, J_add, ← Int.natCast_mul, ← Int.natCast_add, J_rem (by omega) (by omega)]
        rfl
      rw [if_neg (by omega), J_to32 (by omega), iv, Option.bind_some, kp, if_neg (show ¬ J (pQ k : Int) = J 0 from zp), ki, val, bnd_e, bnd_e, I_suc]
      exact ⟨T, by rw [if_neg z], F⟩
  | succ d ih =>
    intro m nf T u h1 h2 hu F
    obtain ⟨nf, rfl⟩ : ∃ e, nf = e + 1 := ⟨nf - 1, by omega⟩
    have hT := shC_sm h F
    have ml : m < yL Y := by omega
    have mw : (I (m : Int) = I wi) = ((m : Int) = wi) := I_eq (by omega) (by omega)
    rw [F_X12_restOf_L172, hT.1.1, if_neg (by rw [I_leN (by omega) (by omega)]; omega), lgs]
    simp only [mw]
    by_cases z : (m : Int) = wi
    · rw [if_pos z, if_neg (show ¬ (cutB Y ρ m = true ∧ (m : Int) ≠ wi) from fun x => x.2 z)]
      unfold F_X12_restOf_L198
      rw [if_pos rfl, bnd_e, I_suc]
      exact ih (m + 1) nf T u (by omega) (by omega) hu F
    · obtain ⟨U, u0, u1, _⟩ := r_sideOf (sh := sh) (f := f) hf ok w c hT ml
      have FU : ∀ x, x ≠ 136 → Sm S U x := fun x hx => (F x hx).trans (u1 x hx)
      rw [if_neg z, u0, Option.bind_some]
      unfold F_X12_restOf_L198
      by_cases cb : cutB Y ρ m = true
      · have sn := I_sd (ρ := ρ) ok m
        have by' := r_by (sh := sh) (f := f) (S := U) (q := q) (p1 := p1) (i := m) (nu := nu) hf ok w (shC_sm h FU) ml (((FU p1 hp).I 2).trans s2) (fun e he => ((FU (p1 + 2) hp2).A e).trans (hk e he))
        have bI := byI_b (ρ := ρ) ok hn m
        have kb : (I (byI nu Y ρ m)).toInt64 = J (byI nu Y ρ m) := J_I (by omega)
        have md := r_mod (sh := sh) (f := f) (S := U) (a := byI nu Y ρ m) (p := (pQ k : Nat)) (by omega) (by omega)
        have r0 := Int.emod_nonneg (byI nu Y ρ m) (b := (pQ k : Nat)) (by omega)
        have r1 := Int.emod_lt_of_pos (byI nu Y ρ m) (b := (pQ k : Nat)) (by omega)
        obtain ⟨rn, hrn⟩ : ∃ n : Nat, byI nu Y ρ m % (pQ k : Nat) = n := ⟨(byI nu Y ρ m % (pQ k : Nat)).toNat, by omega⟩
        rw [hrn] at md
        have kr : (I (rn : Int)).toInt64 = J rn := J_I (by omega)
        have mb : u * rn ≤ 1000039 * 1000039 := Nat.mul_le_mul (by omega) (by omega)
        have val : J u * J rn - J u * J rn / J (pQ k : Nat) * J (pQ k : Nat) = J ((u * rn % pQ k : Nat) : Int) := by
          rw [J_mul, ← Int.natCast_mul, J_rem (by omega) (by omega)]
          rfl
        have en : (byI nu Y ρ m % (pQ k : Nat)).toNat = rn := by rw [hrn]; rfl
        rw [if_pos cb, if_neg sn, by', Option.bind_some, kb, md, Option.bind_some, kp, if_neg zp, kr, val, bnd_e, bnd_e, I_suc, if_pos (show cutB Y ρ m = true ∧ (m : Int) ≠ wi from ⟨cb, z⟩), List.map_cons, bpN, en]
        exact ih (m + 1) nf U (u * rn % pQ k) (by omega) (by omega) (Nat.mod_lt _ (by omega)) FU
      · rw [if_neg cb, if_pos rfl, if_neg (show ¬ (cutB Y ρ m = true ∧ (m : Int) ≠ wi) from fun x => cb x.1), bnd_e, I_suc]
        exact ih (m + 1) nf U u (by omega) (by omega) hu FU
end CBx
