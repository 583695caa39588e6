section BSa
variable {sh : List Sh} {f V : Nat} {T : St} {p1 p2 p3 p4 : Int32}
theorem r_bp76 {i : Nat} {U U' : Nat → Nat} (hi : 1 ≤ i ∧ i < 200) (hV : V ≤ 3) (h1 : sI T 111 1 = I V) (hc : ∀ a, a < V → sA T 114 (3 * i + a) = I (U a) ∧ U a < 4) (hr : ∀ a, a < V → sA T 114 (3 * i - 3 + a) = I (U' a) ∧ U' a < 4) (k49 : St → Int32 → Option (Int64 × St)) : ∀ (d p nf : Nat) (b : Bool), p + d = V → d < nf → F_X12_byPairings_L76 sh f 94 p1 p2 p3 p4 k49 nf T (I i) (if b = true then 1 else 0) (I p) = F_X12_byPairings_L141 sh f 94 p1 p2 p3 p4 k49 T (I i) (if (b || !(List.range d).all (fun a => U (p + a) == U' (p + a))) = true then 1 else 0) := by
  have h1' : sI T (94 + 17) 1 = I V := h1
  intro d
  induction d with
  | zero =>
    intro p nf b hp hn
    obtain ⟨nf, rfl⟩ : ∃ e, nf = e + 1 := ⟨nf - 1, by omega⟩
    have : p = V := by omega
    subst this
    rw [F_X12_byPairings_L76, h1', if_pos (by rw [I_leN (by omega) (by omega)]; omega), List.range_zero, List.all_nil, Bool.not_true, Bool.or_false]
  | succ d ih =>
    intro p nf b hp hn
    obtain ⟨nf, rfl⟩ : ∃ e, nf = e + 1 := ⟨nf - 1, by omega⟩
    have c1 := hc p (by omega)
    have c2 := hr p (by omega)
    have m3 : (3 : Int32) * I (i : Int) + I (p : Int) = I ((3 * i + p : Nat) : Int) := by rw [show (3 : Int32) = I 3 from rfl, I_mul, I_add]; rfl
    have m4 : (3 : Int32) * I (i : Int) - 3 + I (p : Int) = I ((3 * i - 3 + p : Nat) : Int) := by
      rw [show (3 : Int32) = I 3 from rfl, I_mul, I_sub, I_add]
      congr 1
      omega
    have al : (List.range (d + 1)).all (fun a => U (p + a) == U' (p + a)) = (U p == U' p && (List.range d).all (fun a => U (p + 1 + a) == U' (p + 1 + a))) := by
      rw [List.range_succ_eq_map, List.all_cons, List.all_map]
      congr 2
      funext a
      simp only [Function.comp]
      rw [show p + (a + 1) = p + 1 + a by omega]
    rw [F_X12_byPairings_L76, h1', if_neg (by rw [I_leN (by omega) (by omega)]; omega)]
    cases b with
    | true =>
      rw [if_pos rfl, if_neg (by decide), Bool.true_or, if_pos rfl]
    | false =>
      have a1 : sA T (94 + 17 + 3) (3 * i + p) = I (U p) := c1.1
      have a2 : sA T (94 + 17 + 3) (3 * i - 3 + p) = I (U' p) := c2.1
      rw [if_pos (show (if false = true then (1 : Int32) else 0) = 0 by decide), m3, m4, I_clN (show 3 * i + p < _ by omega), if_neg (I_bnd (show 3 * i + p < 600 by omega) (by omega)), I_clN (show 3 * i - 3 + p < _ by omega), if_neg (I_bnd (show 3 * i - 3 + p < 600 by omega) (by omega)), a1, a2, al]
      simp only [bnd, I_suc]
      rw [ite_eqN (by omega) (by omega)]
      by_cases c : U p = U' p
      · have := ih (p + 1) nf false (by omega) (by omega)
        rw [if_neg (by decide)] at this
        rw [if_pos c, this, beq_iff_eq.mpr c, Bool.true_and]
      · have := ih (p + 1) nf true (by omega) (by omega)
        rw [if_pos rfl] at this
        rw [if_neg c, this, beq_eq_false_iff_ne.mpr c]
        rfl
end BSa
section BSb
variable {sh : List Sh} {S : St} {p : PC} {q : Option Nat} {w : Nat} {X : NS} {f V : Nat}
theorem r_bp364 {z i : Nat} {Y : Ly} {ρ : Nat → Nat} {C : St} {p1 p2 p3 p4 : Int32} (hf : 20000 ≤ f) (ok : yOk Y) (w : yRw Y ρ) (h : shK sh C Y z) (hi : i < 200) (e1 : ∀ p, p < yV Y → sA C 114 (3 * i + p) = I (yU Y p)) (s1 : sI C 111 1 = I (yV Y)) (e5 : sA C 116 i = I (yNa Y)) (r0 : sL C 153 0 = J (e12 ρ)) {many : Int} (m0 : sA C 154 0 = I many) (hm : -2147483648 < many ∧ many < 2147483648) {t : Int} {l : Nat} (c : frC C t l) (sm : smal (t * (yNa Y : Nat) * (hvN Y ρ (yL Y) : Nat) + l * many * wrN Y (yV Y)) (l * yNa Y * hvN Y ρ (yL Y))) (k49 : St → Int32 → Option (Int64 × St)) : ∃ E t' l', F_X12_byPairings_L364 sh f 94 p1 p2 p3 p4 k49 f C (I i) 1 0 = k49 E (I ((i + 1 : Nat) : Int)) ∧ frC E t' l' ∧ t' * ((l * yNa Y * hvN Y ρ (yL Y) : Nat) : Int) = (t * (yNa Y : Nat) * (hvN Y ρ (yL Y) : Nat) + l * many * wrN Y (yV Y)) * l' ∧ Nat.gcd t'.natAbs l' = 1 ∧ 0 < l' ∧ True ∧ fr [] [134, 144, 145, 146, 147, 148, 149, 150] C E := by
  have L12 := ok.2.2.2.2.2.2.1
  obtain ⟨U, u0, u1, u2⟩ := r_takes (sh := sh) (f := f) (ρ := ρ) (by omega) L12 C h.1.1
  have FU : fr [] [134] C U := fr_of (by decide) u2
  have hU := shK_C (shK_fr h FU (by decide) (by decide) (by decide) (by decide) (by decide) (by decide) (by decide)) (fun i hi => by rw [u1 i hi, zz_row L12 (fun i hi => (yRw_lt w hi).1) hi])
  obtain ⟨E, t', l', c0, c1, c2, c3, c4, c5, c6⟩ := r_comes (sh := sh) (f := f) (q := z) (i := i) hf ok w hU hi (fun p hp => ((u2 114 (by omega)).A _).trans (e1 p hp)) (((u2 111 (by omega)).I 1).trans s1) (((u2 116 (by omega)).A i).trans e5) (many := many) hm (t := t) (l := l) ⟨(wz_sm (u2 144 (by omega))).trans c.1, (wz_sm (u2 145 (by omega))).trans c.2⟩ sm
  have r0' : sL C (94 + 59) (0 : Int32).toNatClampNeg = J (e12 ρ) := r0
  have m0' : sA U (94 + 60) (0 : Int32).toNatClampNeg = I many := ((u2 154 (by omega)).A 0).trans m0
  have c0' : F_X12_comes sh f U 94 (94 + 17) (I i) (I many) = some E := c0
  have key : ∀ n, 2 ≤ n → F_X12_byPairings_L364 sh f 94 p1 p2 p3 p4 k49 n C (I i) 1 0 = k49 E (I ((i + 1 : Nat) : Int)) := fun n hn => by
    obtain ⟨m, rfl⟩ : ∃ m, n = m + 1 + 1 := ⟨n - 2, by omega⟩
    rw [F_X12_byPairings_L364, if_neg (by decide), if_neg (by decide), r0', u0, Option.bind_some, if_neg (by decide), m0', c0', Option.bind_some]
    simp only [bnd]
    rw [F_X12_byPairings_L364, if_pos (by decide)]
    simp only [bnd, I_suc]
  exact ⟨E, t', l', key f (by omega), c1, c2, c3, c4, trivial, (FU.mono (by decide) (by decide)).trans ((fr_lw c6).mono (by decide) (by decide))⟩
abbrev bfs : List Nat := [0, 25, 26, 35, 40]
abbrev bcc : List Nat := [132, 133, 134, 135, 136, 137, 138, 144, 145, 146, 147, 148, 149, 150, 151, 152, 153, 154]
noncomputable def fvN (e : Nat → Nat → Nat) (X : NS) (V a b c j : Nat) : Int := if xP X V a b c j = true then wkN (xY X V j) * xK e X V a b c j else 0
theorem fsL_b {F : Nat → Int} {Z : Nat} : ∀ (A : List Dw) (pv : Option Nat), (∀ d, d ∈ A → (F d.1).natAbs ≤ Z) → (fsL F pv A).natAbs ≤ A.length * Z
  | [], _, _ => by rw [fsL]; simp
  | d :: r, pv, h => by
    have ih := fsL_b r (some d.1) (fun e he => h e (List.mem_cons_of_mem _ he))
    have hd := h d List.mem_cons_self
    rw [fsL, List.length_cons, Nat.add_mul, Nat.one_mul]
    have : (if pv = some d.1 then 0 else F d.1 : Int).natAbs ≤ Z := by
      by_cases c : pv = some d.1
      · rw [if_pos c]; simp
      · rw [if_neg c]; exact hd
    omega
theorem fvN_b {g : Nat} {H : Nat → Nat} {e : Nat → Nat → Nat} {a b c j : Nat} (v : liV S g X V) (ok : bkOk (xB X)) (gd : gxD S g V X H e) (hj : j < (xG X V).length) : (fvN e X V a b c j).natAbs ≤ 100663296 * (970299 * DMX) := by
  have kb := xK_b (a := a) (b := b) (c := c) v ok gd hj
  have wb := wk_b (xY_ok v hj).2.1
  unfold fvN
  by_cases q : xP X V a b c j = true
  · rw [if_pos q, Int.natAbs_mul]
    exact Nat.mul_le_mul (by omega) kb
  · rw [if_neg q]; simp
theorem r_bp49 {z : Nat} {H : Nat → Nat} {e : Nat → Nat → Nat} {a b c : Nat} (h : inv sh S p q w X) (hf : 20000 ≤ f) (v : liV S p.2.2.1 X V) (n2 : 2 ≤ xN X) (gd : gxD S p.2.2.1 V X H e) (habc : a ≤ 3 ∧ b ≤ 3 ∧ c ≤ 3) (h5 : sR S 94 5 = some z) (ck : ckX9 sh z = true) (qo : qOk z) (kr : bkR S z (xB X)) (b4 : Int32) : ∀ (dd i nf : Nat) (T : St) (t : Int) (l : Nat), i + dd = (xD X V).length → dd < nf → fr bfs bcc S T → sI T 94 40 = I V → frC T t l → t * (pw (xE' e X V a b c) 25 : Nat) = fsL (fvN e X V a b c) none ((xD X V).take i) * l → Nat.gcd t.natAbs l = 1 → 0 < l → ∃ T' t' l', F_X12_byPairings_L49 sh f 94 (I a) (I b) (I c) b4 nf T (I i) = some (toldV t' l' (b4 != 0), T') ∧ t' * (pw (xE' e X V a b c) 25 : Nat) = fsL (fvN e X V a b c) none (xD X V) * l' ∧ Nat.gcd t'.natAbs l' = 1 ∧ 0 < l' ∧ fr bfs bcc S T' := by
  have l200 := v.2.2.1
  have V3 := v.1
  have bo : bkOk (xB X) := h.1.2.2.2.2.2.2.1.1
  obtain ⟨D0, DM, cM⟩ := xE_M (a := a) (b := b) (c := c) v bo gd
  have fb : ∀ i, i ≤ (xD X V).length → (fsL (fvN e X V a b c) none ((xD X V).take i)).natAbs ≤ 200 * (100663296 * (970299 * DMX)) := fun i hi => by
    have := fsL_b (F := fvN e X V a b c) (Z := 100663296 * (970299 * DMX)) ((xD X V).take i) none (fun d hd => by
      obtain ⟨j, hj⟩ := List.getElem?_of_mem (List.mem_of_mem_take hd)
      obtain ⟨cc, en⟩ := enK_of v hj
      exact fvN_b v bo gd (en_grp v en hj).1)
    refine Nat.le_trans this (Nat.mul_le_mul_right _ ?_)
    rw [List.length_take]
    omega
  intro dd
  induction dd with
  | zero =>
    intro i nf T t l hi hn F h40 hfr hN hg hl
    obtain ⟨nf, rfl⟩ : ∃ e, nf = e + 1 := ⟨nf - 1, by omega⟩
    have s0 : sI T (94 + 17) 0 = I ((xD X V).length : Nat) := ((F.2.2.2 111 (by decide) (by decide)).I 0).trans v.2.2.2.2.2.1.1
    have tl : t.natAbs < 2 ^ 511 := Nat.lt_of_le_of_lt (Nat.le_trans (fr_bd D0 hN hg).2 (fb i (by omega))) DMX_4
    rw [List.take_of_length_le (by omega)] at hN
    obtain ⟨T', t0, t1⟩ := r_told (sh := sh) (f := f) (by omega) T hfr tl b4
    rw [F_X12_byPairings_L49, s0, if_pos (by rw [I_leN (by omega) (by omega)]; omega), t0, Option.bind_some]
    exact ⟨T', t, l, rfl, hN, hg, hl, F.trans ((fr_lw t1).mono (by decide) (by decide))⟩
  | succ dd ih =>
    intro i nf T t l hi hn F h40 hfr hN hg hl
    obtain ⟨nf, rfl⟩ : ∃ e, nf = e + 1 := ⟨nf - 1, by omega⟩
    have s0 : sI T (94 + 17) 0 = I ((xD X V).length : Nat) := ((F.2.2.2 111 (by decide) (by decide)).I 0).trans v.2.2.2.2.2.1.1
    obtain ⟨d, hd⟩ : ∃ d, (xD X V)[i]? = some d := ⟨_, List.getElem?_eq_getElem (by omega)⟩
    obtain ⟨cc, en⟩ := enK_of v hd
    obtain ⟨dl, dY⟩ := en_grp v en hd
    have kT : ∀ x, 111 ≤ x → x ≤ 117 → Sm S T x := fun x a b => F.2.2.2 x (by omega) (by simp only [List.mem_cons, List.not_mem_nil, or_false]; omega)
    have ok := en.2.2.2.2.1
    have i200 := en.1
    have yv : yV d.2.1 = V := by rw [en.2.2.2.1]; rfl
    have yb : yB d.2.1 = xB X := by rw [en.2.2.2.1]; rfl
    have yn : yN d.2.1 = xN X := by rw [en.2.2.2.1]; rfl
    have ye : yE d.2.1 = xE X := by rw [en.2.2.2.1]; rfl
    have re := en.2.2.2.2.2.2.2.2.2.2.1
    have s1 : sI T 111 1 = I V := ((kT 111 (by omega) (by omega)).I 1).trans v.2.2.2.2.2.2.1
    have u4 : ∀ c a, cdU V c a < 4 := fun c a => Nat.mod_lt _ (by omega)
    have yU' : ∀ a, yU d.2.1 a = cdU V cc a := fun a => by rw [en.2.2.2.1]; rfl
    have rT : ∀ a, a < V → sA T 114 (3 * i + a) = I (yU d.2.1 a) := fun a ha => ((kT 114 (by omega) (by omega)).A _).trans (re.1 a (by omega))
    have tk : fsL (fvN e X V a b c) none ((xD X V).take (i + 1)) = fsL (fvN e X V a b c) none ((xD X V).take i) + (if laG none ((xD X V).take i) = some d.1 then 0 else fvN e X V a b c d.1) := by
      rw [take_s hd, fsL_app, fsL, fsL, Int.add_zero]
    -- is it the first of its rules
    have first : F_X12_byPairings_L49 sh f 94 (I a) (I b) (I c) b4 (nf + 1) T (I i) = F_X12_byPairings_L141 sh f 94 (I a) (I b) (I c) b4 (F_X12_byPairings_L49 sh f 94 (I a) (I b) (I c) b4 nf) T (I i) (if laG none ((xD X V).take i) = some d.1 then 0 else 1) := by
      rw [F_X12_byPairings_L49, s0, if_neg (by rw [I_leN (by omega) (by omega)]; omega)]
      obtain ⟨f1, rfl⟩ : ∃ x, f = x + 1 := ⟨f - 1, by omega⟩
      by_cases i0 : i = 0
      · subst i0
        rw [if_pos (by decide), F_X12_byPairings_L76]
        have s1' : sI T (94 + 17) 1 = I V := s1
        rw [s1', if_neg (by rw [show (0 : Int32) = I ((0 : Nat) : Int) from rfl, I_leN (by omega) (by omega)]; omega), if_neg (by decide), List.take_zero, laG, if_neg (by simp)]
      · obtain ⟨d', hd'⟩ : ∃ d', (xD X V)[i - 1]? = some d' := ⟨_, List.getElem?_eq_getElem (by omega)⟩
        obtain ⟨cc', en'⟩ := enK_of v hd'
        have re' := en'.2.2.2.2.2.2.2.2.2.2.1
        have yv' : yV d'.2.1 = V := by rw [en'.2.2.2.1]; rfl
        have yU2 : ∀ a, yU d'.2.1 a = cdU V cc' a := fun a => by rw [en'.2.2.2.1]; rfl
        have lg : laG none ((xD X V).take i) = some d'.1 := by
          have := take_s hd'
          rw [show i - 1 + 1 = i by omega] at this
          rw [this, laG_app]
        have h76 := r_bp76 (sh := sh) (f := f1 + 1) (p1 := I a) (p2 := I b) (p3 := I c) (p4 := b4) (T := T) (i := i) (U := cdU V cc) (U' := cdU V cc') (by omega) V3.2 s1 (fun a ha => ⟨by rw [rT a ha, yU'], u4 _ _⟩) (fun a ha => ⟨by
          have := ((kT 114 (by omega) (by omega)).A (3 * (i - 1) + a)).trans (re'.1 a (by omega))
          rw [show 3 * i - 3 + a = 3 * (i - 1) + a by omega, this, yU2], u4 _ _⟩) (F_X12_byPairings_L49 sh (f1 + 1) 94 (I a) (I b) (I c) b4 nf) V 0 (f1 + 1) false (by omega) (by omega)
        rw [if_neg (by decide)] at h76
        have h76' : F_X12_byPairings_L76 sh (f1 + 1) 94 (I a) (I b) (I c) b4 (F_X12_byPairings_L49 sh (f1 + 1) 94 (I a) (I b) (I c) b4 nf) (f1 + 1) T (I i) 0 0 = _ := h76
        rw [if_neg (show ¬ I (i : Int) = 0 by rw [show (0 : Int32) = I ((0 : Nat) : Int) from rfl, I_eqN (by omega) (by omega)]; exact i0), h76', lg, Bool.false_or]
        congr 1
        obtain ⟨cb, ck', cg, cl1⟩ := enK_cc v en hd
        obtain ⟨cb2, ck2, cg2, cl2⟩ := enK_cc v en' hd'
        have c64 : 4 ^ V ≤ 4 ^ 3 := Nat.pow_le_pow_right (by omega) V3.2
        by_cases same : d'.1 = d.1
        · have : cc = cc' := by
            rw [same] at cg2
            exact Option.some.inj (cg.symm.trans cg2)
          have ha : ((List.range V).all fun a => cdU V cc (0 + a) == cdU V cc' (0 + a)) = true := by
            rw [this]
            exact List.all_eq_true.mpr (fun x _ => beq_iff_eq.mpr rfl)
          rw [ha, if_neg (show ¬ (!true) = true by decide), if_pos (congrArg some same)]
        · have ha : ((List.range V).all fun a => cdU V cc (0 + a) == cdU V cc' (0 + a)) = false := by
            rw [← Bool.not_eq_true]
            intro al
            have ec := cd_inj ⟨V, by omega⟩ ⟨cc, by omega⟩ ⟨cc', by omega⟩ cb cb2 (fun p hp => by
              have := List.all_eq_true.mp al p.val (List.mem_range.mpr hp)
              rw [Nat.zero_add] at this
              exact beq_iff_eq.mp this)
            have ec : cc = cc' := congrArg Fin.val ec
            subst ec
            exact same (cl2.trans cl1.symm)
          rw [ha, if_pos (show (!false) = true from rfl), if_neg (fun q => same (Option.some.inj q))]
    rw [first]
    unfold F_X12_byPairings_L141
    by_cases fi : laG none ((xD X V).take i) = some d.1
    · rw [if_pos fi] at tk
      rw [if_pos fi, if_pos rfl]
      simp only [bnd, I_suc]
      exact ih (i + 1) nf T t l (by omega) (by omega) F h40 hfr (by rw [tk, Int.add_zero]; exact hN) hg hl
    · rw [if_neg fi] at tk
      rw [if_neg fi, if_neg (by decide)]
      have hT5 : sR T 94 5 = some z := (F.R 5).trans h5
      have kT2 : bkR T z (xB X) := bkR_fr F (by decide) qo kr
      obtain ⟨U, u0, u1⟩ := r_hasP (sh := sh) (f := f) (i := i) (by omega) ok hT5 ck qo (by rw [yb]; exact kT2) i200 (fun p hp => rT p (by omega)) (by rw [yv]; exact s1) habc
      have u0' : F_X12_hasPowers sh f T 94 (94 + 17) (I i) (I a) (I b) (I c) = _ := u0
      have FU : fr bfs bcc S U := F.trans ((fr_of (by decide) u1).mono (by decide) (by decide))
      have fU : frC U t l := ⟨(wz_sm (u1 144 (by omega))).trans hfr.1, (wz_sm (u1 145 (by omega))).trans hfr.2⟩
      have xp : xP X V a b c d.1 = pqY d.2.1 a b c := by show pqY (xY X V d.1) a b c = _; rw [dY]
      rw [u0', Option.bind_some]
      simp only [if10]
      by_cases pc : pqY d.2.1 a b c = true
      · have kU : ∀ x, 111 ≤ x → x ≤ 117 → Sm S U x := fun x a b => (kT x a b).trans (u1 x (by omega))
        have m3 : (3 : Int32) * I (i : Int) = I ((3 * i : Nat) : Int) := by rw [show (3 : Int32) = I 3 from rfl, I_mul]; rfl
        obtain ⟨r, A, a0, a1, a2, a3⟩ := r_lays (sh := sh) (f := f) (Y := d.2.1) (p1 := 111) (p2 := 114) (n2 := 600) (q := z) (o := 3 * i) (S := U) (by omega) ok.2.2.2.1 ok.2.2.2.2.1 ok.1 ck (by unfold qOk at qo; exact ⟨by omega, fun x hx => by omega⟩) (by omega) (by omega) (by omega) (by omega) (by rw [yv]; exact ((kU 111 (by omega) (by omega)).I 1).trans v.2.2.2.2.2.2.1) (by rw [yn]; exact ((kU 111 (by omega) (by omega)).I 2).trans v.2.2.2.2.2.2.2.1) ok.2.1.2 (fun x hx => by rw [ye]; exact ((kU 112 (by omega) (by omega)).A x).trans (v.2.2.2.2.2.2.2.2 x (by omega))) ((FU.R 5).trans h5) (bkR_fr FU (by decide) qo (by rw [yb]; exact kr)) (fun a ha => ((kU 114 (by omega) (by omega)).A _).trans (re.1 a (by omega)))
        obtain ⟨r1, rl⟩ := a1 ok.2.2.2.2.2.2
        subst r1
        have FA1 : fr [25, 26] [132, 133, 134, 135] U A := ⟨fun j hj => a3.1 j (fun e => hj (by simp [e])) (fun e => hj (by simp [e])), (a3.2.1 94).2, (a3.2.1 94).1, fun x h1 h2 => a3.2.2 x h1 (fun e => h2 (by simp [e])) (fun e => h2 (by simp [e])) (fun e => h2 (by simp [e]))⟩
        have FA : fr bfs bcc S A := FU.trans (FA1.mono (by decide) (by decide))
        have a0' : F_X12_lays sh f U 94 (94 + 17) (94 + 17 + 3) 600 (I ((3 * i : Nat) : Int)) = some (1, A) := a0
        have A5 : sR A 94 5 = some z := (FA.R 5).trans h5
        have kA : bkR A z (yB d.2.1) := bkR_fr FA (by decide) qo (by rw [yb]; exact kr)
        obtain ⟨B, b0, FB1, b1⟩ := r_pairs (sh := sh) (f := f) (S := A) (by omega) ok qo ck ⟨rl, A5, kA⟩
        have FB : fr bfs bcc S B := FA.trans (FB1.mono (by decide) (by decide))
        have rbB : RB B (yHg d.2.1) := ⟨b1.1, fun x ρ hx => (b1.2 x ρ hx).1⟩
        have hKA : shK sh A d.2.1 z := ⟨rl, by rw [yv, FA1.I (by decide), (u1 94 (by omega)).I]; exact h40, A5, ck, qo, kA⟩
        have hKB := shK_fr hKA FB1 (by decide) (by decide) (by decide) (by decide) (by decide) (by decide) (by decide)
        have hpos : 0 < (yHg d.2.1).length := List.length_pos_of_mem en.2.2.2.2.2.1
        have hgl := yHg_len ok
        obtain ⟨ρ0, h0⟩ : ∃ ρ0, (yHg d.2.1)[0]? = some ρ0 := ⟨_, List.getElem?_eq_getElem hpos⟩
        have m0 := (yHg_mem ok).mp (List.mem_of_getElem? h0)
        obtain ⟨C, c0, FC1, c1, c2⟩ := r_bp196 (sh := sh) (f := f) (p1 := I a) (p2 := I b) (p3 := I c) (p4 := b4) (l5 := I i) (by omega) ok hKB rbB h0 (F_X12_byPairings_L49 sh f 94 (I a) (I b) (I c) b4 nf) (yHg d.2.1).length 0 f B 0 (by omega) (by omega) fr.rfl (fun _ => rfl) (fun q => by omega)
        have c0' : F_X12_byPairings_L196 sh f 94 (I a) (I b) (I c) b4 (F_X12_byPairings_L49 sh f 94 (I a) (I b) (I c) b4 nf) f B (I i) 0 0 = _ := c0
        have FC : fr bfs bcc S C := FB.trans (FC1.mono (by decide) (by decide))
        have hKC := shK_fr hKB FC1 (by decide) (by decide) (by decide) (by decide) (by decide) (by decide) (by decide)
        have w4 : ∀ x, x = 144 ∨ x = 145 → Sm U C x := fun x hx => ((FA1.2.2.2 x (by omega) (by simp only [List.mem_cons, List.not_mem_nil, or_false]; omega)).trans (FB1.2.2.2 x (by omega) (by simp only [List.mem_cons, List.not_mem_nil, or_false]; omega))).trans (FC1.2.2.2 x (by omega) (by simp only [List.mem_cons, List.not_mem_nil, or_false]; omega))
        have fC : frC C t l := ⟨(wz_sm (w4 144 (by omega))).trans fU.1, (wz_sm (w4 145 (by omega))).trans fU.2⟩
        have kC : ∀ x, 111 ≤ x → x ≤ 117 → Sm S C x := fun x a b => FC.2.2.2 x (by omega) (by simp only [List.mem_cons, List.not_mem_nil, or_false]; omega)
        have nb2 := yNa_b ok
        have wb := wr_b ok (yV d.2.1) (Nat.le_refl _)
        have w3 : 99 ^ yV d.2.1 ≤ 99 ^ 3 := Nat.pow_le_pow_right (by omega) (by omega)
        have wkb := wk_b ok
        have w1 := ((yHg_mem ok).mp en.2.2.2.2.2.1)
        have Hd : H d.1 = hvN d.2.1 ρ0 (yL d.2.1) := by
          have x1 := (gd d.1 dl).1
          have x2 := en.2.2.2.2.2.2.2.2.2.2.2
          have hb := (gd d.1 dl).2.2.1
          have hb2 := hv_le ok w1.1 w1.2.2.1 (by rw [yn]; exact n2)
          rw [x1, I_eqN (by omega) (by omega)] at x2
          rw [x2]
          exact hv_same ok w1.1 w1.2.2.1 m0.1 m0.2.2.1
        have hb := (gd d.1 dl).2
        rw [Hd] at hb
        have eD := xE_D (a := a) (b := b) (c := c) gd dl (by rw [xp]; exact pc)
        rw [dY, Hd] at eD
        have sm := smal_of (many := wkN d.2.1) (wr := wrN d.2.1 (yV d.2.1)) (nam := yNa d.2.1) (hv := hvN d.2.1 ρ0 (yL d.2.1)) D0 DM hN hg hl (fb i (by omega)) nb2 ⟨hb.1, hb.2.1⟩ (by omega) (by omega)
        obtain ⟨E, t', l', e0, e1, e2, e3, e4, e5, e6⟩ := r_bp364 (sh := sh) (f := f) (z := z) (p1 := I a) (p2 := I b) (p3 := I c) (p4 := b4) hf ok m0.1 hKC i200 (fun p hp => ((kC 114 (by omega) (by omega)).A _).trans (re.1 p hp)) (by rw [yv]; exact ((kC 111 (by omega) (by omega)).I 1).trans v.2.2.2.2.2.2.1) (((kC 116 (by omega) (by omega)).A i).trans re.2.2.1) c1 c2 (by omega) fC sm (F_X12_byPairings_L49 sh f 94 (I a) (I b) (I c) b4 nf)
        have nx := fr_nx hl eD hN e2
        rw [if_pos pc, m3, a0', Option.bind_some]
        simp only [bnd]
        rw [b0, Option.bind_some, c0', e0]
        refine ih (i + 1) nf E t' l' (by omega) (by omega) (FC.trans (e6.mono (by decide) (by decide))) ?_ e1 ?_ e3 e4
        · rw [e6.I (by decide), hKC.2.1, yv]
        · rw [tk]
          unfold fvN
          rw [xp, if_pos pc, dY]
          unfold xK
          rw [dY]
          rw [yv] at nx
          exact nx
      · rw [if_neg pc]
        simp only [bnd, I_suc]
        refine ih (i + 1) nf U t l (by omega) (by omega) FU (by rw [(u1 94 (by omega)).I]; exact h40) fU ?_ hg hl
        rw [tk]
        unfold fvN
        rw [xp, if_neg pc, Int.add_zero]
        exact hN
end BSb
