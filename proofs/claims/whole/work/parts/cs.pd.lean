/-! PARTED: the reference as a whole. -/
section CSx
variable {sh : List Sh} {f : Nat} {S : St} {q : Nat} {B : Bk} {n sd k0 : Nat} {ek : Nat → Nat} {nu le : Nat → Int}
def neE (n : Nat) (ek : Nat → Nat) (nu : Nat → Int) (sd k0 : Nat) : En := (ptN (sB sd) n, ptK (sB sd) ek n k0, ptU (sB sd) nu n)
def faE (B : Bk) (n : Nat) (ek : Nat → Nat) (nu : Nat → Int) (sd k0 : Nat) : En := (ptN (fun i => !(sB sd i)) n, ptK (fun i => !(sB sd i)) ek n (bF B k0), ptU (fun i => !(sB sd i)) nu n)
noncomputable def pCd (B : Bk) (n : Nat) (ek : Nat → Nat) (nu le : Nat → Int) (sd k0 o : Nat) : Int32 := if evE B ek n = 0 then 7 else if evE B (neE n ek nu sd k0).2.1 (neE n ek nu sd k0).1 = 0 then 7 else if evE B (faE B n ek nu sd k0).2.1 (faE B n ek nu sd k0).1 = 0 then 7 else if sumE nu n ≠ 0 then 8 else qCd B (neE n ek nu sd k0) (faE B n ek nu sd k0) le o
/-- sides divide the ends -/
theorem sd_cnt (n6 : n ≤ 6) (h1 : 2 ≤ popN n sd) (h2 : popN n sd + 2 ≤ n) : spc (sB sd) n ≤ 4 ∧ spc (fun i => !(sB sd i)) n ≤ 4 := by
  have a := spc_pop sd n
  have b := spc_not (sB sd) n
  omega
theorem r_parted {o : Nat} (hf : 20000 ≤ f) (ok : bkOk B) (n6 : 2 ≤ n ∧ n ≤ 6) (ho : 2 ≤ o ∧ o ≤ 3) (h17 : sI S 94 17 = I n) (hk : ∀ i, i < n → ek i < bK B ∧ -999 ≤ nu i ∧ nu i ≤ 999 ∧ sA S 108 i = I (ek i) ∧ sA S 109 i = I (nu i)) (h5 : sR S 94 5 = some q) (ck : ckX9 sh q = true) (hq : qOk q) (kr : bkR S q B) (hle : ∀ l, l < 3 → -99 ≤ le l ∧ le l ≤ 99 ∧ sA S 110 l = I (le l)) (hs : sd < 64) (s2 : sd < 2 ^ n) (sp1 : 2 ≤ popN n sd) (sp2 : popN n sd + 2 ≤ n) (kb : k0 < bK B) (p1 : F_X12_isSide sh f (uI S 94 0 0) 94 (I sd) = some 1) (p2 : F_X12_isKind sh f (uI S 94 0 0) 94 (I k0) = some 1) (p3 : F_X12_in sh f (uI S 94 0 0) (I o) 2 3 = some 1) : ∃ S2, F_X12_parted sh f S 94 (I sd) (I k0) (I o) = some (if pCd B n ek nu le sd k0 o = 0 then 1 else 0, S2) ∧ rAns S S2 (pCd B n ek nu le sd k0 o) (fun k => rrD B (neE n ek nu sd k0) (faE B n ek nu sd k0) le o k (o - 1) 1 0) (ppD B (neE n ek nu sd k0) (faE B n ek nu sd k0) o (o - 1) 1 (-1)) := by
  have K8 : bK B ≤ 8 := ok.1.1
  have kF := (ok.1.2 k0 kb).1
  obtain ⟨cn, cf⟩ := sd_cnt n6.2 sp1 sp2
  have S0 : ∀ x, x ≠ 94 → Sm S (uI S 94 0 0) x := fun x hx => uI_o hx
  have h17' : sI (uI S 94 0 0) 94 17 = I n := by rw [sI_ne _ _ _ (by omega)]; exact h17
  obtain ⟨T, t0, t1, t2, t3, t4⟩ := r_copies (sh := sh) (f := f) (S := uI S 94 0 0) (l := 118) (ek := ek) (en := nu) (by omega) (Or.inl rfl) n6.2 h17' (fun i hi => (hk i hi).2.2.2)
  have NT : rN (uI S 94 0 0) T := rN_sm (fun x hx => t3 x (by omega) (by omega) (by omega))
  have kr0 : bkR (uI S 94 0 0) q B := bkR_sm kr (fun x a b => S0 x (by unfold qOk at hq; omega))
  have dr := r_drawn (sh := sh) (f := f) (S := T) (l := 118) (z := q) (ek := ek) (n := n) (by omega) ok ((NT.1 5).trans h5) ck (rN_bk NT hq kr0) n6.2 t1 (fun i hi => ⟨(hk i hi).1, (t2 i hi).1⟩)
  have to := r_total (sh := sh) (f := f) (S := T) (t := 94) (l := 118) (n := n) (en := nu) (by omega) n6.2 t1 (fun i hi => by
    have := hk i hi
    exact ⟨by omega, by omega, (t2 i hi).2⟩)
  have t0' : F_X12_copiesEnds sh f (uI S 94 0 0) 94 (94 + 24) = some T := t0
  have dr' : F_X12_isDrawn sh f T 94 (94 + 24) = _ := dr
  have to' : F_X12_isEven_ sh f T 94 (94 + 24) = _ := to
  obtain ⟨U, u0, u1, u2⟩ := r_parts (sh := sh) (f := f) (S := T) (p1 := 118) (n := n) (kd := k0) (ek := ek) (nu := nu) (b := sB sd) (x := I sd) (by omega) (Or.inl rfl) n6.2 ((NT.2.1 17 (by omega)).trans h17') (fun i hi => ⟨((NT.2.2.1 108 (by omega) (by omega)).A i).trans (hk i hi).2.2.2.1, ((NT.2.2.1 109 (by omega) (by omega)).A i).trans (hk i hi).2.2.2.2⟩) (fun i hi => nr_b hs (by omega)) (by omega)
  have NU : rN (uI S 94 0 0) U := NT.trans (rN_sm (fun x hx => u2 x (by omega) (by omega) (by omega)))
  have u0' : F_X12_parts sh f T 94 (94 + 24) (I sd) (I k0) = some U := u0
  have fb : sA U (q + 2) k0 = I (bF B k0) := ((rN_bk NU hq kr0).2.2.1 k0 kb).1
  have U17 : sI U 94 17 = I n := (NU.2.1 17 (by omega)).trans h17'
  obtain ⟨W, w0, w1, w2⟩ := r_parts (sh := sh) (f := f) (S := U) (p1 := 125) (n := n) (kd := bF B k0) (ek := ek) (nu := nu) (b := fun i => !(sB sd i)) (x := (((1 : Int32) <<< (I (n : Int) &&& 31)) - 1) &&& (I (sd : Int) ^^^ (-1))) (by omega) (Or.inr rfl) n6.2 U17 (fun i hi => ⟨((NU.2.2.1 108 (by omega) (by omega)).A i).trans (hk i hi).2.2.2.1, ((NU.2.2.1 109 (by omega) (by omega)).A i).trans (hk i hi).2.2.2.2⟩) (fun i hi => fr_b n6.2 hs s2 hi) (by omega)
  have NW : rN (uI S 94 0 0) W := NU.trans (rN_sm (fun x hx => w2 x (by omega) (by omega) (by omega)))
  have w0' : F_X12_parts sh f U 94 (94 + 31) ((((1 : Int32) <<< (I (n : Int) &&& 31)) - 1) &&& (I (sd : Int) ^^^ (-1))) (I (bF B k0)) = some W := w0
  have eN : enA W 118 (neE n ek nu sd k0).1 (neE n ek nu sd k0).2.1 (neE n ek nu sd k0).2.2 := enA_sm u1 (fun x a b => w2 x (by omega) (by omega) (by omega))
  have eF : enA W 125 (faE B n ek nu sd k0).1 (faE B n ek nu sd k0).2.1 (faE B n ek nu sd k0).2.2 := w1
  have nk : ∀ i, i < (neE n ek nu sd k0).1 → (neE n ek nu sd k0).2.1 i < bK B := ptK_lt (fun i hi => (hk i hi).1) kb
  have fk : ∀ i, i < (faE B n ek nu sd k0).1 → (faE B n ek nu sd k0).2.1 i < bK B := ptK_lt (fun i hi => (hk i hi).1) kF
  have n1 : 1 ≤ (neE n ek nu sd k0).1 ∧ (neE n ek nu sd k0).1 ≤ 6 := by
    show 1 ≤ spc (sB sd) n + 1 ∧ spc (sB sd) n + 1 ≤ 6
    omega
  have f1 : 1 ≤ (faE B n ek nu sd k0).1 ∧ (faE B n ek nu sd k0).1 ≤ 6 := by
    show 1 ≤ spc (fun i => !(sB sd i)) n + 1 ∧ spc (fun i => !(sB sd i)) n + 1 ≤ 6
    omega
  have c : rCx sh (uI S 94 0 0) q B (neE n ek nu sd k0) (faE B n ek nu sd k0) le := ⟨h5, ck, hq, kr0, ok, n1, f1, nk, fk, ptU_b (fun i hi => ⟨(hk i hi).2.1, (hk i hi).2.2.1⟩) cn, ptU_b (fun i hi => ⟨(hk i hi).2.1, (hk i hi).2.2.1⟩) cf, hle⟩
  have W5 : sR W 94 5 = some q := (NW.1 5).trans h5
  have kW := rN_bk NW hq kr0
  have d1 := r_drawn (sh := sh) (f := f) (S := W) (l := 118) (z := q) (ek := (neE n ek nu sd k0).2.1) (n := (neE n ek nu sd k0).1) (by omega) ok W5 ck kW n1.2 eN.1 (fun i hi => ⟨nk i hi, (eN.2 i hi).1⟩)
  have d2 := r_drawn (sh := sh) (f := f) (S := W) (l := 125) (z := q) (ek := (faE B n ek nu sd k0).2.1) (n := (faE B n ek nu sd k0).1) (by omega) ok W5 ck kW f1.2 eF.1 (fun i hi => ⟨fk i hi, (eF.2 i hi).1⟩)
  have d1' : F_X12_isDrawn sh f W 94 (94 + 24) = _ := d1
  have d2' : F_X12_isDrawn sh f W 94 (94 + 31) = _ := d2
  have i10 : ¬ (1 : Int32) = 0 := by decide
  have U5 : sR U 94 5 = some q := (NU.1 5).trans h5
  have fin : ∀ {S2 : St} {z : Int32} {r : Nat → Nat} {P : Int32}, rAns (uI S 94 0 0) S2 z r P → rAns S S2 z r P := fun h => rAns_0 h
  unfold F_X12_parted
  rw [bnd_e, p1, Option.bind_some, if_neg i10, p2, Option.bind_some, if_neg i10, p3, Option.bind_some, if_neg i10, t0', Option.bind_some, dr', Option.bind_some, to', Option.bind_some, u0', Option.bind_some, U5, Option.bind_some, if_pos ck, I_clN (show k0 < _ by omega), if_neg (I_bnd (show k0 < 8 by omega) (by omega)), fb, U17, w0', Option.bind_some]
  have seven : ∃ S2, ((F_X12_denied sh f W 94 7).bind fun y => if ¬ (y.1 = 0 ∨ y.1 = 1) then none else some (y.1, y.2)) = some (if (7 : Int32) = 0 then 1 else 0, S2) ∧ rAns S S2 7 (fun k => rrD B (neE n ek nu sd k0) (faE B n ek nu sd k0) le o k (o - 1) 1 0) (ppD B (neE n ek nu sd k0) (faE B n ek nu sd k0) o (o - 1) 1 (-1)) := by
    obtain ⟨X, x0, x1⟩ := r_den' (sh := sh) (f := f) (r := fun k => rrD B (neE n ek nu sd k0) (faE B n ek nu sd k0) le o k (o - 1) 1 0) (P := ppD B (neE n ek nu sd k0) (faE B n ek nu sd k0) o (o - 1) 1 (-1)) NW (z := 7) (by decide)
    rw [if_neg (show ¬ (7 : Int32) = 0 by decide)]
    exact ⟨X, x0, fin x1⟩
  by_cases e1 : evE B ek n = 0
  · have v : pCd B n ek nu le sd k0 o = 7 := if_pos e1
    rw [if_pos e1, v]
    exact seven
  · by_cases e2 : evE B (neE n ek nu sd k0).2.1 (neE n ek nu sd k0).1 = 0
    · have v : pCd B n ek nu le sd k0 o = 7 := by unfold pCd; rw [if_neg e1, if_pos e2]
      rw [if_neg e1, d1', Option.bind_some, if_pos e2, v]
      exact seven
    · by_cases e3 : evE B (faE B n ek nu sd k0).2.1 (faE B n ek nu sd k0).1 = 0
      · have v : pCd B n ek nu le sd k0 o = 7 := by unfold pCd; rw [if_neg e1, if_neg e2, if_pos e3]
        rw [if_neg e1, d1', Option.bind_some, if_neg e2, d2', Option.bind_some, if_pos e3, v]
        exact seven
      · rw [if_neg e1, d1', Option.bind_some, if_neg e2, d2', Option.bind_some, if_neg e3]
        by_cases sz : sumE nu n = 0
        · have v : pCd B n ek nu le sd k0 o = qCd B (neE n ek nu sd k0) (faE B n ek nu sd k0) le o := by unfold pCd; rw [if_neg e1, if_neg e2, if_neg e3, if_neg (fun x => x sz)]
          obtain ⟨X, x0, x1⟩ := r_158 (sh := sh) (f := f) hf c ho (I sd) (I k0) (o - 1) 1 f W (by omega) (by omega) (by omega) ⟨NW, eN, eF⟩ rfl
          rw [if_pos sz, if_neg i10, v]
          exact ⟨X, x0, fin x1⟩
        · have v : pCd B n ek nu le sd k0 o = 8 := by unfold pCd; rw [if_neg e1, if_neg e2, if_neg e3, if_pos sz]
          obtain ⟨X, x0, x1⟩ := r_den' (sh := sh) (f := f) (r := fun k => rrD B (neE n ek nu sd k0) (faE B n ek nu sd k0) le o k (o - 1) 1 0) (P := ppD B (neE n ek nu sd k0) (faE B n ek nu sd k0) o (o - 1) 1 (-1)) NW (z := 8) (by decide)
          rw [if_neg sz, if_pos rfl, v, if_neg (show ¬ (8 : Int32) = 0 by decide)]
          exact ⟨X, x0, fin x1⟩
end CSx
