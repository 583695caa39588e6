section V9v
variable {sh : List Sh} {f : Nat} {S : St} {g b e n V : Nat} {B : Bk} {ek : Nat → Nat}
/-- what fill leaves untouched -/
def flB (S S' : St) (g : Nat) : Prop := ∀ x, x < 14 ∨ 22 < x → x < g ∨ g + 16 < x → Sm S S' x
/-- the groups of the first c codes are told -/
def GG (S : St) (g : Nat) (B : Bk) (n : Nat) (ek : Nat → Nat) (V c : Nat) : Prop := sI S g 16 = I V ∧ sI S g 18 = I (gls B n ek V c).length ∧ ∀ i cc, (gls B n ek V c)[i]? = some cc → gpC S g i cc (yC B n ek V cc) ∧ (sA S (g + 12) i = I 1 ∨ ∃ ρ, yNe (yC B n ek V cc) ρ ∧ sA S (g + 12) i = I (hvN (yC B n ek V cc) ρ (yL (yC B n ek V cc))))
theorem c_fill (hf : 1000 ≤ f) (kb : bkC S b B) (ok : bkOk B) (hb : b = 3 ∨ b = 61) (he : e = 44 ∨ e = 47 ∨ e = 50) (hn : 1 ≤ n ∧ n ≤ 6) (s2 : sI S e 2 = I n) (hk : ∀ i, i < n → ek i < bK B ∧ sA S (e + 1) i = I (ek i)) (hV : 1 ≤ V ∧ V ≤ 3) (z : jnC S (fun _ _ => 0)) (hG : g = 23 ∨ g = 71) (r2 : sR S 13 2 = some g) (ck : ckX3 sh g = true) : ∃ S', F_X5_fill sh f S 13 b e (I V) = some (if (dls B n ek V (4 ^ V)).length ≤ 200 then 1 else 0, S') ∧ jnC S' (fun _ _ => 0) ∧ flB S S' g ∧ GA S' g (dls B n ek V (4 ^ V)) ∧ ((dls B n ek V (4 ^ V)).length ≤ 200 → GG S' g B n ek V (4 ^ V)) := by
  have c64 : 4 ^ V ≤ 4 ^ 3 := Nat.pow_le_pow_right (by omega) hV.2
  have lp : ∀ (d c nf : Nat) (T : St), c + d = 4 ^ V → d < nf → jnC T (fun _ _ => 0) → flB S T g → GA T g (dls B n ek V c) → ((dls B n ek V c).length ≤ 200 → GG T g B n ek V c) → ∃ S', F_X5_fill_L18 sh f 13 b e (I V) nf T (I ((4 ^ V : Nat) : Int)) (I c) = some (if (dls B n ek V (4 ^ V)).length ≤ 200 then 1 else 0, S') ∧ jnC S' (fun _ _ => 0) ∧ flB S S' g ∧ GA S' g (dls B n ek V (4 ^ V)) ∧ ((dls B n ek V (4 ^ V)).length ≤ 200 → GG S' g B n ek V (4 ^ V)) := by
    intro d
    induction d with
    | zero =>
      intro c nf T h1 h2 jT fT gT ggT
      obtain ⟨nf, rfl⟩ : ∃ x, nf = x + 1 := ⟨nf - 1, by omega⟩
      have : c = 4 ^ V := by omega
      subst this
      have T2 : sR T 13 2 = some g := ((fT 13 (by omega) (by omega)).R 2).trans r2
      rw [F_X5_fill_L18, if_pos (by rw [I_leN (by omega) (by omega)]; omega), T2, Option.bind_some, if_pos ck]
      by_cases q : (dls B n ek V (4 ^ V)).length ≤ 200
      · rw [(gT.1 q).1, if_pos rfl, if_pos q]
        exact ⟨T, rfl, jT, fT, gT, ggT⟩
      · rw [(gT.2 (by omega)).1, if_neg (by decide), if_neg q]
        exact ⟨T, rfl, jT, fT, gT, ggT⟩
    | succ d ih =>
      intro c nf T h1 h2 jT fT gT ggT
      obtain ⟨nf, rfl⟩ : ∃ x, nf = x + 1 := ⟨nf - 1, by omega⟩
      have hc : c < 4 ^ V := by omega
      have T2 : sR T 13 2 = some g := ((fT 13 (by omega) (by omega)).R 2).trans r2
      rw [F_X5_fill_L18, if_neg (by rw [I_leN (by omega) (by omega)]; omega), T2, Option.bind_some, if_pos ck]
      by_cases q : (dls B n ek V c).length ≤ 200
      · obtain ⟨gg1, gg2, gg3⟩ := ggT q
        have kT : bkC T b B := bkC_sm kb (fun x _ _ => fT x (by omega) (by omega))
        obtain ⟨r, U, u0, u1, u2, u3⟩ := c_lay (sh := sh) hf T kT ok hb he hn (((fT e (by omega) (by omega)).I 2).trans s2) (fun i hi => ⟨(hk i hi).1, ((fT (e + 1) (by omega) (by omega)).A i).trans (hk i hi).2⟩) hV (show c < 64 by omega)
        have jU : jnC U (fun _ _ => 0) := fun a c ha hc => by rw [(u3 22 (by omega)).A]; exact jT a c ha hc
        have fU : flB S U g := fun x a c => (fT x a c).trans (u3 x (by omega))
        have gU : GA U g (dls B n ek V c) := GA_sm gT (fun x _ _ => u3 x (by omega))
        have U16 : sI U g 16 = I V := ((u3 g (by omega)).I 16).trans gg1
        have U18 : sI U g 18 = I (gls B n ek V c).length := ((u3 g (by omega)).I 18).trans gg2
        have U2 : sR U 13 2 = some g := ((u3 13 (by omega)).R 2).trans T2
        simp only [Nat.reduceAdd]
        rw [(gT.1 q).1, if_pos rfl, u0, Option.bind_some]
        by_cases kk : okC B n ek V c = true
        · have YO := (okC_iff B n ek V).mp kk
          obtain ⟨rfl, ly⟩ := u1 YO
          have gi20 := gls_20 B n ek V hV.2 hc kk
          have kU : bkC U b (yB (yC B n ek V c)) := bkC_sm kT (fun x _ _ => u3 x (by omega))
          obtain ⟨W, w0, w18, wI, wgp, w12, woth, wf⟩ := c_open (sh := sh) (c := c) hf ly kU YO hG U16 U18 gi20
          have lW := lyC_sm ly (S' := W) (fun x _ _ => wf x (by omega))
          have W2 : sR W 13 2 = some g := ((wf 13 (by omega)).R 2).trans U2
          have jW : jnC W (fun _ _ => 0) := fun a c ha hc => by rw [(wf 22 (by omega)).A]; exact jU a c ha hc
          have kW : bkC W b (yB (yC B n ek V c)) := bkC_sm kU (fun x _ _ => wf x (by omega))
          have dl := dls_lt B n ek V c
          have gW : GA W g (dls B n ek V c) := by
            refine ⟨fun hl => ?_, fun hl => by omega⟩
            obtain ⟨a1, a2, a3, a4⟩ := gU.1 hl
            refine ⟨(wI 19 (by omega)).trans a1, (wI 17 (by omega)).trans a2, fun i e' he' => ?_, fun e' he' => ?_⟩
            · exact enC_cg (a3 i e' he') ((wf (g + 1) (by omega)).L i) (fun x h1 h2 => (wf (g + x) (by omega)).A i) (fun k _ => ⟨(wf (g + 6) (by omega)).A _, (wf (g + 7) (by omega)).A _⟩)
            · rw [woth e'.1 (by have := dl e' he'; omega) 12 (by omega) (by omega)]
              exact a4 e' he'
          have L12 := YO.2.2.2.2.2.2.1
          have ev := YO.2.2.2.2.2.2.2
          obtain ⟨X, x0, x1, x2, x3⟩ := c_draw (sh := sh) (f := f) hf YO hb hG ck gi20 (yL (yC B n ek V c) / 2) (List.range (yL (yC B n ek V c))) (fun _ => 99) 0 1 10 0 W (dls B n ek V c) (by rw [List.length_range]; omega) (pw_range _) (fun x hx => List.mem_range.mp hx) ⟨fun x hx hn => absurd (List.mem_range.mpr hx) hn, fun _ _ => rfl, fun _ _ => rfl⟩ (by omega) (fun x hx hn => absurd (List.mem_range.mpr hx) hn) (fun ρ _ => by rw [Int.one_mul]; rfl) (by omega) (by omega) ⟨lW, kW, jW, W2, w18⟩ gW (fun d' hd1 hd2 => by have := dl d' hd1; omega)
          have x0' : F_X5_draw sh f 10 W 13 b (I (mkb (inl (List.range (yL (yC B n ek V c)))) (yL (yC B n ek V c)) : Int)) 0 0 1 0 = some X := x0
          rw [if_neg (show ¬ (1 : Int32) = 0 by decide), U2, Option.bind_some, if_pos ck, w0, Option.bind_some, if_neg (show ¬ (1 : Int32) = 0 by decide), c_allLegs lW YO, Option.bind_some, x0', Option.bind_some]
          simp only [bnd, I_suc]
          have dE : dls B n ek V (c + 1) = dls B n ek V c ++ nwL (yC B n ek V c) (gls B n ek V c).length (yRows (yC B n ek V c)) := by rw [dls, if_pos kk]
          have gE : gls B n ek V (c + 1) = gls B n ek V c ++ [c] := by rw [gls_s, if_pos kk]
          refine ih (c + 1) nf X (by omega) (by omega) x1 (fun x a c => (fU x a c).trans ((wf x (by omega)).trans (x2.1 x (by omega) (by omega) (by omega)))) (by rw [dE]; exact x3) (fun _ => ?_)
          refine ⟨?_, ?_, fun i cc hi => ?_⟩
          · rw [x2.2.1 16 (by omega) (by omega), wI 16 (by omega), U16]
          · rw [x2.2.1 18 (by omega) (by omega), w18, gE, List.length_append, List.length_singleton]
          · have cell : ∀ x, 8 ≤ x → x ≤ 16 → x ≠ 12 → sA X (g + x) i = sA W (g + x) i := fun x h1 h2 h3 => (x2.1 (g + x) (by omega) (by omega) (by omega)).A i
            rw [gE] at hi
            by_cases il : i < (gls B n ek V c).length
            · rw [List.getElem?_append_left il] at hi
              obtain ⟨p1, p2⟩ := gg3 i cc hi
              have a12 : sA X (g + 12) i = sA T (g + 12) i := by
                rw [x2.2.2.1 i (by omega), woth i (by omega) 12 (by omega) (by omega), (u3 (g + 12) (by omega)).A]
              refine ⟨gpC_cg p1 (fun x h1 h2 h3 => ?_), ?_⟩
              · rw [cell x h1 h2 h3, woth i (by omega) x h1 h2, (u3 (g + x) (by omega)).A]
              · rw [a12]
                exact p2
            · rw [List.getElem?_append_right (by omega)] at hi
              have i0 : i - (gls B n ek V c).length = 0 := by
                apply Classical.byContradiction
                intro q
                rw [List.getElem?_eq_none (by rw [List.length_singleton]; omega)] at hi
                cases hi
              rw [i0, List.getElem?_cons_zero] at hi
              cases hi
              have ie : i = (gls B n ek V c).length := by omega
              subst ie
              refine ⟨gpC_cg wgp (fun x h1 h2 h3 => cell x h1 h2 h3), ?_⟩
              rcases x2.2.2.2 with h | h
              · exact Or.inl (h.trans w12)
              · exact Or.inr h
        · have r0 := u2 (fun q => kk ((okC_iff B n ek V).mpr q))
          subst r0
          rw [if_pos rfl]
          simp only [bnd, I_suc]
          have dE : dls B n ek V (c + 1) = dls B n ek V c := by rw [dls, if_neg kk]
          have gE : gls B n ek V (c + 1) = gls B n ek V c := by rw [gls_s, if_neg kk, List.append_nil]
          refine ih (c + 1) nf U (by omega) (by omega) jU fU (by rw [dE]; exact gU) (fun _ => ?_)
          refine ⟨U16, by rw [gE]; exact U18, fun i cc hi => ?_⟩
          rw [gE] at hi
          obtain ⟨p1, p2⟩ := gg3 i cc hi
          refine ⟨gpC_cg p1 (fun x h1 h2 _ => (u3 (g + x) (by omega)).A i), ?_⟩
          rw [(u3 (g + 12) (by omega)).A]
          exact p2
      · have big : 200 < (dls B n ek V c).length := by omega
        obtain ⟨E, hE⟩ := dls_pre B n ek V c (d + 1)
        rw [h1] at hE
        have len : 200 < (dls B n ek V (4 ^ V)).length := by rw [hE, List.length_append]; omega
        rw [(gT.2 big).1, if_neg (by decide), Option.bind_some, if_pos ck, (gT.2 big).1, if_neg (by decide), if_neg (by omega)]
        exact ⟨T, rfl, jT, fT, by rw [hE]; exact GA_more gT big, fun h => by omega⟩
  unfold F_X5_fill F_X3_clear
  rw [r2, Option.bind_some, if_pos ck]
  simp only [bnd, Option.bind_some]
  have sx : (1 : Int32) <<< (((2 : Int32) * I (V : Int)) &&& 31) = I ((4 ^ V : Nat) : Int) := by
    have : (2 : Int32) * I (V : Int) = I ((2 * V : Nat) : Int) := by rw [show (2 : Int32) = I 2 from rfl, I_mul]; rfl
    rw [this, one_shl (by omega), Nat.pow_mul]
  rw [sx]
  have d0 : dls B n ek V 0 = [] := rfl
  have g0 : gls B n ek V 0 = [] := rfl
  refine lp (4 ^ V) 0 f _ (by omega) (by omega) (fun a c ha hc => z a c ha hc) (fun x a c => (by repeat' (first | exact Sm.rfl | (refine Sm.uI ?_ (by omega)) | (refine Sm.uA ?_ (by omega)) | (refine Sm.uJ ?_ (by omega)) | (refine Sm.uL ?_ (by omega)) | (refine Sm.uR ?_ (by omega))))) ?_ (fun _ => ?_)
  · rw [d0]
    refine ⟨fun _ => ⟨sI_self _ _ _ _, ?_, fun i d hd => by simp at hd, fun d hd => by simp at hd⟩, fun q => by simp at q⟩
    rw [sI_ne _ _ _ (by omega), sI_ne _ _ _ (by omega), sI_self]
    rfl
  · unfold GG
    rw [g0]
    refine ⟨?_, ?_, fun i cc hi => by simp at hi⟩
    · rw [sI_ne _ _ _ (by omega), sI_ne _ _ _ (by omega), sI_ne _ _ _ (by omega), sI_self]
    · rw [sI_ne _ _ _ (by omega), sI_self]
      rfl
end V9v
