/-! THE REFERENCE tells the worth of all drawings, or of those with a cut. -/
section CIx
/-- how at and whole end -/
noncomputable def wCd (B : Bk) (n : Nat) (ek : Nat → Nat) (nu le : Nat → Int) (V sd kd : Nat) : Int32 := if evE B ek n = 0 then 7 else if sumE nu n ≠ 0 then 8 else if 200 < (dls B n ek V (4 ^ V)).length then 3 else if plL nu V sd kd (-1) (dls B n ek V (4 ^ V)) ≠ -1 then 5 else if loL nu V sd kd false (dls B n ek V (4 ^ V)) = false ∧ fnd (fun k => rsL nu le V sd kd k 0 (dls B n ek V (4 ^ V))) = true then 0 else 6
theorem lo_zL {nu : Nat → Int} {V sd kd : Nat} {L : List Dw} : (loL nu V sd kd false L = false) ↔ ∀ k, k < 4 → zL nu V sd kd k L = false := by
  rw [loL_z, Bool.false_or, List.any_eq_false]
  constructor
  · intro h k hk
    exact Bool.eq_false_iff.mpr (h k (List.mem_range.mpr hk))
  · intro h k hk
    exact Bool.eq_false_iff.mp (h k (List.mem_range.mp hk))
variable {sh : List Sh} {f : Nat} {S : St} {q : Nat}
theorem r_tells {B : Bk} {n : Nat} {ek : Nat → Nat} {nu le : Nat → Int} {V sd kd k0 : Nat} (hf : 20000 ≤ f) (ok : bkOk B) (n6 : 2 ≤ n ∧ n ≤ 6) (hV : 1 ≤ V ∧ V ≤ 3) (h17 : sI S 94 17 = I n) (hk : ∀ i, i < n → ek i < bK B ∧ -999 ≤ nu i ∧ nu i ≤ 999 ∧ sA S 108 i = I (ek i) ∧ sA S 109 i = I (nu i)) (h5 : sR S 94 5 = some q) (ck : ckX9 sh q = true) (hq : qOk q) (kr : bkR S q B) (hle : ∀ l, l < 3 → -99 ≤ le l ∧ le l ≤ 99 ∧ sA S 110 l = I (le l)) (hs : sd < 64) (a1 a2 b4 : Int32) (ha : sd = 0 ∧ a1 = -1 ∧ kd = 0 ∨ sd ≠ 0 ∧ a1 = I sd ∧ a2 = I k0 ∧ k0 < bK B ∧ kd = bF B k0) (hin : F_X12_in sh f S (I V) b4 3 = some 1) : ∃ S2, F_X12_tells sh f S 94 a1 a2 (I V) b4 = some (if wCd B n ek nu le V sd kd = 0 then 1 else 0, S2) ∧ rAns S S2 (wCd B n ek nu le V sd kd) (fun k => rsL nu le V sd kd k 0 (dls B n ek V (4 ^ V))) (plL nu V sd kd (-1) (dls B n ek V (4 ^ V))) := by
  have K8 : bK B ≤ 8 := ok.1.1
  obtain ⟨T, t0, t1, t2, t3, t4⟩ := r_copies (sh := sh) (f := f) (S := S) (l := 118) (ek := ek) (en := nu) (by omega) (Or.inl rfl) n6.2 h17 (fun i hi => (hk i hi).2.2.2)
  have NT : rN S T := rN_sm (fun x hx => t3 x (by omega) (by omega) (by omega))
  have dr := r_drawn (sh := sh) (f := f) (S := T) (l := 118) (z := q) (ek := ek) (n := n) (by omega) ok ((NT.1 5).trans h5) ck (rN_bk NT hq kr) n6.2 t1 (fun i hi => ⟨(hk i hi).1, (t2 i hi).1⟩)
  have to := r_total (sh := sh) (f := f) (S := T) (t := 94) (l := 118) (n := n) (en := nu) (by omega) n6.2 t1 (fun i hi => by
    have := hk i hi
    exact ⟨by omega, by omega, (t2 i hi).2⟩)
  have t0' : F_X12_copiesEnds sh f S 94 (94 + 24) = some T := t0
  have dr' : F_X12_isDrawn sh f T 94 (94 + 24) = _ := dr
  have to' : F_X12_isEven_ sh f T 94 (94 + 24) = _ := to
  unfold F_X12_tells
  rw [h17, if_neg (show ¬ I (n : Int) = 0 by rw [show (0 : Int32) = I ((0 : Nat) : Int) from rfl, I_eqN (by omega) (by omega)]; omega), hin, Option.bind_some, if_neg (show ¬ (1 : Int32) = 0 by decide), t0', Option.bind_some, dr', Option.bind_some]
  unfold wCd
  by_cases ev : evE B ek n = 0
  · rw [if_pos ev, if_pos ev, if_neg (show ¬ (7 : Int32) = 0 by decide)]
    exact r_den' NT (by decide)
  · rw [if_neg ev, if_neg ev, to', Option.bind_some]
    by_cases sz : sumE nu n = 0
    · rw [if_pos sz, if_neg (show ¬ (1 : Int32) = 0 by decide), if_neg (show ¬ sumE nu n ≠ 0 from fun x => x sz)]
      obtain ⟨U, u0, u1, u2⟩ := r_fl (sh := sh) (f := f) (T := T) (q := q) (p1 := 118) (B := B) (n := n) (ek := ek) (nu := nu) (V := V) hf (Or.inl rfl) ((NT.1 5).trans h5) ck hq (rN_bk NT hq kr) ok (by omega) (fun i hi => ⟨(hk i hi).1, t2 i hi⟩) hV t1
      have NU : rN S U := NT.trans (rN_wC (Or.inl rfl) u1)
      have u0' : F_X12_fills sh f T 94 (94 + 24) (I V) = _ := u0
      rw [u0', Option.bind_some]
      by_cases le2 : (dls B n ek V (4 ^ V)).length ≤ 200
      · rw [if_pos le2, if_neg (show ¬ (1 : Int32) = 0 by decide), if_neg (show ¬ 200 < (dls B n ek V (4 ^ V)).length by omega)]
        have rw0 := u2 le2
        have hn : nuB nu n := fun i hi => by have := hk i hi; omega
        have kd8 : kd < 8 := by
          rcases ha with ⟨_, _, e⟩ | ⟨_, _, _, e, e'⟩
          · omega
          · have := (ok.1.2 k0 e).1
            omega
        -- behind the lists
        have go : ∀ x7 : Int32, (sd ≠ 0 → x7 = I kd) → ∃ S2, ((F_X12_hasPole sh f U 94 (94 + 24) a1 x7).bind fun y8 => if y8.1 = 0 then F_X12_tells_L133 sh f 94 a1 a2 (I V) b4 f y8.2 x7 0 else (F_X12_poled sh f y8.2 94).bind fun y9 => if ¬ (y9.1 = 0 ∨ y9.1 = 1) then none else some (y9.1, y9.2)) = some (if (if plL nu V sd kd (-1) (dls B n ek V (4 ^ V)) ≠ -1 then (5 : Int32) else if loL nu V sd kd false (dls B n ek V (4 ^ V)) = false ∧ fnd (fun k => rsL nu le V sd kd k 0 (dls B n ek V (4 ^ V))) = true then 0 else 6) = 0 then 1 else 0, S2) ∧ rAns S S2 (if plL nu V sd kd (-1) (dls B n ek V (4 ^ V)) ≠ -1 then (5 : Int32) else if loL nu V sd kd false (dls B n ek V (4 ^ V)) = false ∧ fnd (fun k => rsL nu le V sd kd k 0 (dls B n ek V (4 ^ V))) = true then 0 else 6) (fun k => rsL nu le V sd kd k 0 (dls B n ek V (4 ^ V))) (plL nu V sd kd (-1) (dls B n ek V (4 ^ V))) := fun x7 h7 => by
          have ha' : sd = 0 ∧ a1 = -1 ∨ sd ≠ 0 ∧ a1 = I sd ∧ x7 = I kd := by
            rcases ha with ⟨e, e1, _⟩ | ⟨e, e1, _⟩
            · exact Or.inl ⟨e, e1⟩
            · exact Or.inr ⟨e, e1, h7 e⟩
          obtain ⟨W, w0, w1, w2⟩ := r_hasPole (sh := sh) (f := f) (S := U) (by omega) rw0 hn hs kd8 a1 x7 ha'
          have NW : rN S W := NU.trans (rN_fr w1 (by decide) (by decide))
          have w0' : F_X12_hasPole sh f U 94 (94 + 24) a1 x7 = _ := w0
          rw [w0', Option.bind_some]
          by_cases pz : plL nu V sd kd (-1) (dls B n ek V (4 ^ V)) = -1
          · rw [if_pos pz, if_pos (show (0 : Int32) = 0 from rfl), if_neg (show ¬ plL nu V sd kd (-1) (dls B n ek V (4 ^ V)) ≠ -1 from fun x => x pz)]
            have rwW := rW_fr rw0 w1
            obtain ⟨Y, y0, yr⟩ := r_133 (sh := sh) (f := f) (S := W) (le := le) (by omega) rwW hn (fun l hl => ⟨(hle l hl).1, (hle l hl).2.1, ((NW.2.2.1 110 (by omega) (by omega)).A l).trans (hle l hl).2.2⟩) hs kd8 a1 x7 a2 (I V) b4 ha' 4 0 f W (by omega) (by omega) fr.rfl (fun j hj => by omega)
            have NY : rN S Y := NW.trans (rN_fr y0 (by decide) (by decide))
            rcases yr with ⟨⟨k, hk4, kz⟩, y1⟩ | ⟨yz, y1⟩
            · have y1' : F_X12_tells_L133 sh f 94 a1 a2 (I V) b4 f W x7 0 = _ := y1
              have nl : ¬ (loL nu V sd kd false (dls B n ek V (4 ^ V)) = false ∧ fnd (fun k => rsL nu le V sd kd k 0 (dls B n ek V (4 ^ V))) = true) := fun x => by
                have := lo_zL.mp x.1 k hk4
                rw [kz] at this
                exact absurd this (by decide)
              rw [y1', if_neg nl, if_neg (show ¬ (6 : Int32) = 0 by decide)]
              exact r_den' NY (by decide)
            · have y1' : F_X12_tells_L133 sh f 94 a1 a2 (I V) b4 f W x7 0 = _ := y1
              have nl : loL nu V sd kd false (dls B n ek V (4 ^ V)) = false := lo_zL.mpr (fun k hk => (yz k hk).2)
              obtain ⟨Z, z0, z1⟩ := r_fnd' (sh := sh) (f := f) (P := plL nu V sd kd (-1) (dls B n ek V (4 ^ V))) (r := fun k => rsL nu le V sd kd k 0 (dls B n ek V (4 ^ V))) (by omega) NY (fun k hk => rsL_lt _ _ (by have := pQ_b k; omega)) (fun k hk => (yz k hk).1)
              rw [y1', z0]
              by_cases fb : fnd (fun k => rsL nu le V sd kd k 0 (dls B n ek V (4 ^ V))) = true
              · rw [if_pos fb] at z1
                rw [if_pos fb, if_pos (And.intro nl fb), if_pos (show (0 : Int32) = 0 from rfl)]
                exact ⟨Z, rfl, z1⟩
              · rw [if_neg fb] at z1
                rw [if_neg fb, if_neg (fun x : _ ∧ _ => fb x.2), if_neg (show ¬ (6 : Int32) = 0 by decide)]
                exact ⟨Z, rfl, z1⟩
          · rw [if_neg pz, if_neg (show ¬ (1 : Int32) = 0 by decide), if_pos (show plL nu V sd kd (-1) (dls B n ek V (4 ^ V)) ≠ -1 from pz), if_neg (show ¬ (5 : Int32) = 0 by decide)]
            exact r_pol' NW (w2 pz)
        rcases ha with ⟨e, e1, e2⟩ | ⟨e, e1, e2, e3, e4⟩
        · rw [if_pos e1]
          exact go (-1) (fun x => absurd e x)
        · have n1 : ¬ a1 = (-1 : Int32) := by
            rw [e1, show (-1 : Int32) = I (-1) from rfl, I_eq (by omega) (by omega)]
            omega
          have kU := rN_bk NU hq kr
          have fb : sA U (q + 2) k0 = I (bF B k0) := (kU.2.2.1 k0 e3).1
          have U5 : sR U 94 5 = some q := (NU.1 5).trans h5
          rw [if_neg n1]
          simp only [U5, Option.bind_some, if_pos ck]
          rw [e2, I_clN (show k0 < _ by omega), if_neg (I_bnd (show k0 < 8 by omega) (by omega)), fb, bnd_e, ← e4, ← e2]
          exact go (I kd) (fun _ => rfl)
      · rw [if_neg le2, if_pos (show (0 : Int32) = 0 from rfl), if_pos (show 200 < (dls B n ek V (4 ^ V)).length by omega), if_neg (show ¬ (3 : Int32) = 0 by decide)]
        exact r_den' NU (by decide)
    · rw [if_neg sz, if_pos (show (0 : Int32) = 0 from rfl), if_pos (show sumE nu n ≠ 0 from sz), if_neg (show ¬ (8 : Int32) = 0 by decide)]
      exact r_den' NT (by decide)
end CIx
