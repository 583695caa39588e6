/-! THE REFERENCE chooses rules in order; the whole list. -/
def ascL (r : Nat) : Nat → Nat → Nat → List Nat
  | 0, _, c => [c]
  | m + 1, l, c => (List.range' l (r - l)).flatMap (fun x => ascL r m x (4 * c + x))
def vlB (r V c : Nat) : Bool := (List.range V).all (fun p => decide (cdU V c p < r)) && asB V c
theorem asc_all : ∀ V : Fin 4, ∀ r : Fin 5, (List.range (4 ^ V.val)).filter (vlB r.val V.val) = ascL r.val V.val 0 0 := by decide +kernel
section AJa
variable {sh : List Sh} {f q p1 : Nat} {S : St} {B : Bk} {n V : Nat} {ek : Nat → Nat}
/-- the list with the drawings of one more code -/
noncomputable def apC (B : Bk) (n : Nat) (ek : Nat → Nat) (V : Nat) (DL : List Dw) (c : Nat) : List Dw := DL ++ (if okC B n ek V c = true then nwL (yC B n ek V c) (gls B n ek V c).length (yRows (yC B n ek V c)) else [])
theorem dls_fold (c : Nat) : dls B n ek V c = (List.range c).foldl (apC B n ek V) [] := by
  induction c with
  | zero => rfl
  | succ c ih =>
    rw [dls, List.range_succ, List.foldl_append, ← ih, List.foldl_cons, List.foldl_nil]
    unfold apC
    by_cases k : okC B n ek V c = true
    · rw [if_pos k, if_pos k]
    · rw [if_neg k, if_neg k, List.append_nil]
theorem fold_filter (p : Nat → Bool) (h : ∀ c, okC B n ek V c = true → p c = true) : ∀ (l : List Nat) (DL : List Dw), l.foldl (apC B n ek V) DL = (l.filter p).foldl (apC B n ek V) DL
  | [], _ => rfl
  | c :: l, DL => by
    rw [List.foldl_cons, List.filter_cons]
    by_cases k : p c = true
    · rw [if_pos k, List.foldl_cons]
      exact fold_filter p h l _
    · have e : apC B n ek V DL c = DL := by
        unfold apC
        rw [if_neg (fun q => k (h c q)), List.append_nil]
      rw [if_neg k, e]
      exact fold_filter p h l _
theorem fold_len : ∀ (l : List Nat) (DL : List Dw), DL.length ≤ (l.foldl (apC B n ek V) DL).length
  | [], _ => Nat.le_refl _
  | c :: l, DL => by
    rw [List.foldl_cons]
    refine Nat.le_trans ?_ (fold_len l _)
    unfold apC
    rw [List.length_append]
    omega
theorem dls_asc (r4 : bR B ≤ 4) (hV : V ≤ 3) : dls B n ek V (4 ^ V) = (ascL (bR B) V 0 0).foldl (apC B n ek V) [] := by
  rw [dls_fold, fold_filter (vlB (bR B) V), asc_all ⟨V, by omega⟩ ⟨bR B, by omega⟩]
  intro c hc
  have ok := (okC_iff B n ek V).mp hc
  unfold vlB asB
  rw [Bool.and_eq_true, List.all_eq_true, List.all_eq_true]
  refine ⟨fun p hp => decide_eq_true (ok.2.2.2.2.1 p (List.mem_range.mp hp)), fun p hp => ?_⟩
  have hp := List.mem_range.mp hp
  exact decide_eq_true (ok.2.2.2.2.2.1 p (by show p + 1 < V; omega))
theorem apC_V {DL : List Dw} {c : Nat} (h : ∀ d, d ∈ DL → yV d.2.1 = V) : ∀ d, d ∈ apC B n ek V DL c → yV d.2.1 = V := by
  intro d hd
  unfold apC at hd
  rw [List.mem_append] at hd
  rcases hd with hd | hd
  · exact h d hd
  · by_cases k : okC B n ek V c = true
    · rw [if_pos k] at hd
      unfold nwL at hd
      rw [List.mem_map] at hd
      obtain ⟨ρ, _, rfl⟩ := hd
      rfl
    · rw [if_neg k] at hd
      simp at hd
theorem fold_V : ∀ (l : List Nat) (DL : List Dw), (∀ d, d ∈ DL → yV d.2.1 = V) → ∀ d, d ∈ l.foldl (apC B n ek V) DL → yV d.2.1 = V
  | [], _, h => h
  | c :: l, DL, h => by
    rw [List.foldl_cons]
    exact fold_V l _ (apC_V h)
/-- what the listing needs -/
def liI (sh : List Sh) (S : St) (B : Bk) (n : Nat) (ek : Nat → Nat) (V q p1 : Nat) : Prop := sR S 94 5 = some q ∧ ckX9 sh q = true ∧ qOk q ∧ bkR S q B ∧ bkOk B ∧ (1 ≤ n ∧ n ≤ 6) ∧ (∀ i, i < n → ek i < bK B ∧ sA S (p1 + 1) i = I (ek i)) ∧ (1 ≤ V ∧ V ≤ 3) ∧ sI S p1 1 = I V ∧ sI S p1 2 = I n ∧ (p1 = 111 ∨ p1 = 118 ∨ p1 = 125)
theorem wC_in {x : Nat} (hp : p1 = 111 ∨ p1 = 118 ∨ p1 = 125) (h : x ∈ wC p1) : 106 ≤ x ∧ x ≤ 158 := by
  simp only [List.mem_cons, List.not_mem_nil, or_false] at h
  omega
theorem liI_wF {T : St} (w : wF p1 S T) (h : liI sh S B n ek V q p1) : liI sh T B n ek V q p1 := by
  obtain ⟨h1, h2, h3, h4, h5, h6, h7, h8, h9, h10, h11⟩ := h
  exact ⟨(w.1.R 5).trans h1, h2, h3, bkR_fr w.1 (fun x hx => wC_in h11 hx) h3 h4, h5, h6, fun i hi => ⟨(h7 i hi).1, (w.1.A (by omega) (by simp only [List.mem_cons, List.not_mem_nil, or_false]; omega) i).trans (h7 i hi).2⟩, h8, w.2.1.trans h9, w.2.2.trans h10, h11⟩
/-- the first p rules, told by the number c -/
def prC (S : St) (r p l c : Nat) : Prop := (∀ a, a < p → sA S 142 a = I (cdU p c a) ∧ cdU p c a < r ∧ (a + 1 < p → cdU p c a ≤ cdU p c (a + 1))) ∧ (0 < p → cdU p c (p - 1) ≤ l)
theorem cd_s {p c x a : Nat} (hx : x < 4) (ha : a ≤ p) : cdU (p + 1) (4 * c + x) a = if a = p then x else cdU p c a := by
  unfold cdU
  by_cases k : a = p
  · subst k
    rw [if_pos rfl, show a + 1 - 1 - a = 0 by omega, Nat.pow_zero, Nat.div_one]
    omega
  · rw [if_neg k, show p + 1 - 1 - a = (p - 1 - a) + 1 by omega, Nat.pow_succ, Nat.mul_comm (4 ^ _) 4, ← Nat.div_div_eq_div_mul, show (4 * c + x) / 4 = c by omega]
theorem r_lists (hf : 20000 ≤ f) : ∀ (m e p l c : Nat) (S : St) (DL : List Dw), p + m = V → m < e → liI sh S B n ek V q p1 → prC S (bR B) p l c → (∀ d, d ∈ DL → yV d.2.1 = V) → rLs S p1 DL → DL.length ≤ 200 → l ≤ 4 → ∃ T', F_X12_lists sh f e S 94 p1 (I p) (I l) = some (if ((ascL (bR B) m l c).foldl (apC B n ek V) DL).length ≤ 200 then 1 else 0, T') ∧ wF p1 S T' ∧ (((ascL (bR B) m l c).foldl (apC B n ek V) DL).length ≤ 200 → rLs T' p1 ((ascL (bR B) m l c).foldl (apC B n ek V) DL)) ∧ ∀ a, a < p → sA T' 142 a = sA S 142 a := by
  intro m
  induction m with
  | zero =>
    intro e p l c S DL hpV he li pr hV ls le l4
    obtain ⟨e, rfl⟩ : ∃ x, e = x + 1 := ⟨e - 1, by omega⟩
    have pV : p = V := by omega
    subst pV
    obtain ⟨h1, h2, h3, h4, h5, h6, h7, h8, h9, h10, h11⟩ := id li
    have R : spR sh S (yC B n ek p c) q p1 := ⟨h1, h2, h3, h4, fun a ha => (pr.1 a ha).1, h9, h10, h11⟩
    obtain ⟨T, t0, t1, t2, t3⟩ := r_listsOf (sh := sh) (gi := (gls B n ek p c).length) (Y := yC B n ek p c) (DL := DL) hf h5 h6 (fun i hi => (h7 i hi).1) h8 (fun a ha => (pr.1 a ha).2.1) (fun a ha => (pr.1 a (by show a < p; have : a + 1 < p := ha; omega)).2.2 ha) R (fun i hi => (h7 i hi).2) (fun d hd => by rw [hV d hd]; exact h8.2) ls le
    have e1 : DL ++ (if yL (yC B n ek p c) ≤ 12 ∧ yL (yC B n ek p c) % 2 = 0 then nwL (yC B n ek p c) (gls B n ek p c).length (yRows (yC B n ek p c)) else []) = (ascL (bR B) 0 l c).foldl (apC B n ek p) DL := by
      show _ = apC B n ek p DL c
      unfold apC
      by_cases k : yL (yC B n ek p c) ≤ 12 ∧ yL (yC B n ek p c) % 2 = 0
      · have ok : okC B n ek p c = true := (okC_iff B n ek p).mpr ⟨h5, h6, fun i hi => (h7 i hi).1, h8, fun a ha => (pr.1 a ha).2.1, fun a ha => (pr.1 a (by show a < p; have : a + 1 < p := ha; omega)).2.2 ha, k⟩
        rw [if_pos k, if_pos ok]
      · have ok : ¬ okC B n ek p c = true := fun h => k ((okC_iff B n ek p).mp h).2.2.2.2.2.2
        rw [if_neg k, if_neg ok]
    rw [e1] at t0 t2
    rw [F_X12_lists, h9, if_pos rfl, t0, Option.bind_some]
    generalize hN : (ascL (bR B) 0 l c).foldl (apC B n ek p) DL = NL at *
    by_cases k : NL.length ≤ 200
    · rw [if_pos k, if_neg (by simp)]
      exact ⟨T, rfl, t1, t2, fun a _ => t3 a⟩
    · rw [if_neg k, if_neg (by simp)]
      exact ⟨T, rfl, t1, t2, fun a _ => t3 a⟩
  | succ m ih =>
    intro e p l c S DL hpV he li pr hV ls le l4
    obtain ⟨e, rfl⟩ : ∃ x, e = x + 1 := ⟨e - 1, by omega⟩
    obtain ⟨h1, h2, h3, h4, h5, h6, h7, h8, h9, h10, h11⟩ := id li
    have r4 := h5.2.1
    have lp : ∀ (g x nf : Nat) (T : St) (DL : List Dw), bR B ≤ x + g → g < nf → l ≤ x → x ≤ 4 → wF p1 S T → (∀ a, a < p → sA T 142 a = sA S 142 a) → (∀ d, d ∈ DL → yV d.2.1 = V) → rLs T p1 DL → DL.length ≤ 200 → ∃ T', F_X12_lists_L17 sh f 94 p1 (I p) (I l) (F_X12_lists sh f e) nf T (I x) = some (if (((List.range' x (bR B - x)).flatMap (fun y => ascL (bR B) m y (4 * c + y))).foldl (apC B n ek V) DL).length ≤ 200 then 1 else 0, T') ∧ wF p1 S T' ∧ ((((List.range' x (bR B - x)).flatMap (fun y => ascL (bR B) m y (4 * c + y))).foldl (apC B n ek V) DL).length ≤ 200 → rLs T' p1 (((List.range' x (bR B - x)).flatMap (fun y => ascL (bR B) m y (4 * c + y))).foldl (apC B n ek V) DL)) ∧ ∀ a, a < p → sA T' 142 a = sA S 142 a := by
      intro g
      induction g with
      | zero =>
        intro x nf T DL k1 k2 k3 k4 wT pT hV ls le
        obtain ⟨nf, rfl⟩ : ∃ y, nf = y + 1 := ⟨nf - 1, by omega⟩
        have liT := liI_wF wT li
        have e0 : bR B - x = 0 := by omega
        rw [F_X12_lists_L17, liT.1, Option.bind_some, if_pos h2, liT.2.2.2.1.2.1, if_pos (by rw [I_leN (by omega) (by omega)]; omega), e0]
        show ∃ T', some (1, T) = some (if DL.length ≤ 200 then 1 else 0, T') ∧ wF p1 S T' ∧ (DL.length ≤ 200 → rLs T' p1 DL) ∧ ∀ a, a < p → sA T' 142 a = sA S 142 a
        rw [if_pos le]
        exact ⟨T, rfl, wT, fun _ => ls, pT⟩
      | succ g ihg =>
        intro x nf T DL k1 k2 k3 k4 wT pT hV ls le
        obtain ⟨nf, rfl⟩ : ∃ y, nf = y + 1 := ⟨nf - 1, by omega⟩
        have liT := liI_wF wT li
        rw [F_X12_lists_L17, liT.1, Option.bind_some, if_pos h2, liT.2.2.2.1.2.1, ite_leN (by omega) (by omega)]
        by_cases xr : bR B ≤ x
        · have e0 : bR B - x = 0 := by omega
          rw [if_pos xr, e0]
          show ∃ T', some (1, T) = some (if DL.length ≤ 200 then 1 else 0, T') ∧ wF p1 S T' ∧ (DL.length ≤ 200 → rLs T' p1 DL) ∧ ∀ a, a < p → sA T' 142 a = sA S 142 a
          rw [if_pos le]
          exact ⟨T, rfl, wT, fun _ => ls, pT⟩
        · have e1 : bR B - x = (bR B - (x + 1)) + 1 := by omega
          rw [if_neg xr, I_clN (by omega), if_neg (I_bnd (show p < 3 by omega) (by omega)), I_suc p, e1, List.range'_succ, List.flatMap_cons, List.foldl_append]
          simp only [bnd]
          have TU : fr [] [142] T (uA T 142 p (I x)) := fr.rfl.uA _ _ (by decide)
          have wTU : wF p1 T (uA T 142 p (I x)) := wF_fr h11 TU (by decide) (by decide)
          have wU := wT.trans wTU
          have U142 : ∀ a, sA (uA T 142 p (I x)) 142 a = if a = p then I x else sA T 142 a := by
            intro a
            rw [sA_uA, if_pos rfl, up1_if]
          have x4 : x < 4 := by omega
          have prU : prC (uA T 142 p (I x)) (bR B) (p + 1) x (4 * c + x) := by
            refine ⟨fun a ha => ?_, fun _ => ?_⟩
            · rw [U142, cd_s x4 (by omega)]
              by_cases q : a = p
              · rw [if_pos q, if_pos q]
                exact ⟨rfl, by omega, fun h => by omega⟩
              · obtain ⟨b1, b2, b3⟩ := pr.1 a (by omega)
                rw [if_neg q, if_neg q, pT a (by omega)]
                refine ⟨b1, b2, fun h => ?_⟩
                rw [cd_s x4 (by omega)]
                by_cases z : a + 1 = p
                · rw [if_pos z]
                  have := pr.2 (by omega)
                  rw [show p - 1 = a by omega] at this
                  omega
                · rw [if_neg z]
                  exact b3 (by omega)
            · rw [show p + 1 - 1 = p by omega, cd_s x4 (Nat.le_refl _), if_pos rfl]
              exact Nat.le_refl _
          obtain ⟨W, w0, w1, w2, w3⟩ := ih e (p + 1) x (4 * c + x) (uA T 142 p (I x)) DL (by omega) (by omega) (liI_wF wU li) prU hV (rLs_cg h11 ls (fun y hy => TU.2.2.2 y (by omega) (by simp only [List.mem_cons, List.not_mem_nil, or_false]; omega))) le k4
          have w0' : F_X12_lists sh f e (uA T (94 + 48) p (I x)) 94 p1 (I ((p + 1 : Nat) : Int)) (I x) = _ := w0
          rw [w0', Option.bind_some]
          have wW := wU.trans w1
          have pW : ∀ a, a < p → sA W 142 a = sA S 142 a := by
            intro a ha
            rw [w3 a (by omega), U142, if_neg (by omega)]
            exact pT a ha
          by_cases big : ((ascL (bR B) m x (4 * c + x)).foldl (apC B n ek V) DL).length ≤ 200
          · rw [if_pos big, if_neg (show ¬ (1 : Int32) = 0 by decide), I_suc x]
            exact ihg (x + 1) nf W _ (by omega) (by omega) (by omega) (by omega) wW pW (fold_V _ _ hV) (w2 big) big
          · have bb : ¬ (((List.range' (x + 1) (bR B - (x + 1))).flatMap (fun y => ascL (bR B) m y (4 * c + y))).foldl (apC B n ek V) ((ascL (bR B) m x (4 * c + x)).foldl (apC B n ek V) DL)).length ≤ 200 := by
              have := fold_len (B := B) (n := n) (ek := ek) (V := V) ((List.range' (x + 1) (bR B - (x + 1))).flatMap (fun y => ascL (bR B) m y (4 * c + y))) ((ascL (bR B) m x (4 * c + x)).foldl (apC B n ek V) DL)
              omega
            rw [if_neg big, if_pos rfl, if_neg bb]
            exact ⟨W, rfl, wW, fun h => absurd h bb, pW⟩
    rw [F_X12_lists, h9, if_neg (by rw [I_eqN (by omega) (by omega)]; omega)]
    exact lp 4 l f S DL (by omega) (by omega) (Nat.le_refl _) l4 wF.rfl (fun _ _ => rfl) hV ls le
/-- the reference's list: the same drawings in the same order -/
theorem r_fills (hf : 20000 ≤ f) (h1 : sR S 94 5 = some q) (h2 : ckX9 sh q = true) (h3 : qOk q) (h4 : bkR S q B) (h5 : bkOk B) (h6 : 1 ≤ n ∧ n ≤ 6) (h7 : ∀ i, i < n → ek i < bK B ∧ sA S (p1 + 1) i = I (ek i)) (h8 : 1 ≤ V ∧ V ≤ 3) (h10 : sI S p1 2 = I n) (h11 : p1 = 111 ∨ p1 = 118 ∨ p1 = 125) : ∃ T', F_X12_fills sh f S 94 p1 (I V) = some (if (dls B n ek V (4 ^ V)).length ≤ 200 then 1 else 0, T') ∧ fr [25, 26, 35, 38] (wC p1) S T' ∧ sI T' p1 1 = I V ∧ sI T' p1 2 = I n ∧ ((dls B n ek V (4 ^ V)).length ≤ 200 → rLs T' p1 (dls B n ek V (4 ^ V))) := by
  have r4 := h5.2.1
  unfold F_X12_fills
  simp only [bnd]
  generalize hU : uI (uI (uI S p1 1 (I V)) p1 0 0) p1 3 0 = U
  have fU : fr [25, 26, 35, 38] (wC p1) S U := by
    rw [← hU]
    refine ⟨fun j _ => ?_, rfl, rfl, fun x a b => ?_⟩
    · rw [sI_row _ _ _ (by omega), sI_row _ _ _ (by omega), sI_row _ _ _ (by omega)]
    · simp only [List.mem_cons, List.not_mem_nil, or_false] at b
      exact (by repeat' (first | exact Sm.rfl | (refine Sm.uI ?_ (by omega)) | (refine Sm.uA ?_ (by omega)) | (refine Sm.uJ ?_ (by omega)) | (refine Sm.uL ?_ (by omega)) | (refine Sm.uR ?_ (by omega))))
  have u1 : sI U p1 1 = I V := by
    rw [← hU, sI_ne _ _ _ (by omega), sI_ne _ _ _ (by omega), sI_self]
  have u2 : sI U p1 2 = I n := by
    rw [← hU, sI_ne _ _ _ (by omega), sI_ne _ _ _ (by omega), sI_ne _ _ _ (by omega), h10]
  have li : liI sh U B n ek V q p1 := ⟨(fU.R 5).trans h1, h2, h3, bkR_fr fU (fun x hx => wC_in h11 hx) h3 h4, h5, h6, fun i hi => ⟨(h7 i hi).1, (fU.A (by omega) (by simp only [List.mem_cons, List.not_mem_nil, or_false]; omega) i).trans (h7 i hi).2⟩, h8, u1, u2, h11⟩
  have ls : rLs U p1 [] := ⟨by rw [← hU, sI_ne _ _ _ (by omega), sI_self]; rfl, by rw [← hU, sI_self]; rfl, fun i d h => by simp at h⟩
  obtain ⟨T, t0, t1, t2, _⟩ := r_lists (sh := sh) (f := f) (V := V) hf V 10 0 0 0 U [] (by omega) (by omega) li ⟨fun a ha => by omega, fun h => by omega⟩ (fun d hd => by simp at hd) ls (by simp) (by omega)
  rw [← dls_asc r4 h8.2] at t0 t2
  have t0' : F_X12_lists sh f 10 U 94 p1 0 0 = some (if (dls B n ek V (4 ^ V)).length ≤ 200 then 1 else 0, T) := t0
  rw [t0', Option.bind_some]
  by_cases k : (dls B n ek V (4 ^ V)).length ≤ 200
  · rw [if_pos k, if_neg (by simp)]
    exact ⟨T, rfl, fU.trans t1.1, t1.2.1.trans u1, t1.2.2.trans u2, t2⟩
  · rw [if_neg k, if_neg (by simp)]
    exact ⟨T, rfl, fU.trans t1.1, t1.2.1.trans u1, t1.2.2.trans u2, t2⟩
end AJa
