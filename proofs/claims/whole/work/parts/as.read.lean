/-! CALLS that read the list. -/
section ASa
variable {sh : List Sh} {S S' : St} {p : PC} {q : Option Nat} {w : Nat} {X : NS} {f : Nat}
theorem inv0_same (h : inv0 sh S p q w X) (I94 : ∀ j, j ≠ 0 → j < 19 → sI S' 94 j = sI S 94 j) (J94 : sJ S' 94 = sJ S 94) (R94 : ∀ j, sR S' 94 j = sR S 94 j) (k : ∀ x, x ≠ 94 → ¬ (118 ≤ x ∧ x ≤ 155) → Sm S S' x) : inv0 sh S' p q w X := by
  obtain ⟨h1, h2, ⟨d1, d2, d3⟩, ⟨p1, p2, p3, p4, p5⟩, ⟨t1, t2, t3, t4, t5⟩, ⟨s1, s2, s3, s4⟩, ⟨h7, h8, h9, h10⟩, ⟨e1, e2, e3, e4, e5⟩, h12, h13, l1, l2⟩ := h
  have k0 := k 0 (by omega) (by omega)
  have k1 := k 1 (by omega) (by omega)
  refine ⟨h1, ⟨(k0.R 10).trans h2.1, (k1.R 10).trans h2.2.1, (k0.R 11).trans h2.2.2.1, ((k 13 (by omega) (by omega)).R 2).trans h2.2.2.2.1, (k0.R 12).trans h2.2.2.2.2.1, (k0.R 13).trans h2.2.2.2.2.2⟩, ⟨d1, d2, d3⟩, ⟨(R94 5).trans p1, (R94 6).trans p2, p3, p4, p5⟩, ⟨t1, (k1.I 1).trans t2, (I94 9 (by omega) (by omega)).trans t3, by rw [(k 2 (by omega) (by omega)).1, (k 107 (by omega) (by omega)).1]; exact t4, fun i => by rw [(k 2 (by omega) (by omega)).A]; exact t5 i⟩, ⟨by rw [I94 3 (by omega) (by omega), k1.I]; exact s1, by rw [I94 1 (by omega) (by omega), k0.I]; exact s2, by rw [I94 2 (by omega) (by omega), k0.I, k1.I]; exact s3, by rw [I94 4 (by omega) (by omega), k0.I, k0.I]; exact s4⟩, ⟨h7, bkC_sm h8 (fun x a b => k x (by omega) (by omega)), h9, fun z hz => ⟨(h10 z hz).1, bkR_sm (h10 z hz).2 (fun x a b => k x ?_ ?_)⟩⟩, ⟨e1, ((k 44 (by omega) (by omega)).I 2).trans e2, (I94 17 (by omega) (by omega)).trans e3, e4, fun i hi => ?_⟩, fun i hi => ?_, anR_sm h13 (k0.I 15) J94 (k _ (by omega) (by omega)) (k _ (by omega) (by omega)) (k 156 (by omega) (by omega)), ⟨by rw [I94 18 (by omega) (by omega), k0.I]; exact l1, by rw [k0.I]; exact l2⟩⟩
  · have := (p5 z hz).2.1
    omega
  · have := (p5 z hz).2.1
    omega
  · obtain ⟨a1, a2, a3, a4, a5, a6, a7⟩ := e5 i hi
    exact ⟨a1, a2, a3, ((k 45 (by omega) (by omega)).A i).trans a4, ((k 108 (by omega) (by omega)).A i).trans a5, ((k 46 (by omega) (by omega)).A i).trans a6, ((k 109 (by omega) (by omega)).A i).trans a7⟩
  · obtain ⟨a1, a2, a3, a4⟩ := h12 i hi
    exact ⟨a1, a2, ((k 59 (by omega) (by omega)).A i).trans a3, ((k 110 (by omega) (by omega)).A i).trans a4⟩
/-- reading calls leave all that matters -/
theorem inv_rd (h : inv sh S p q w X) (I94 : ∀ j, j ≠ 0 → j < 19 → sI S' 94 j = sI S 94 j) (J94 : sJ S' 94 = sJ S 94) (R94 : ∀ j, sR S' 94 j = sR S 94 j) (k : ∀ x, x ≠ 94 → ¬ (118 ≤ x ∧ x ≤ 155) → Sm S S' x) : inv sh S' p q w X := inv_keep h (inv0_same h.1 I94 J94 R94 k) rfl rfl rfl rfl ((k 0 (by omega) (by omega)).I 14) (fun x hx => k x (by omega) (by omega))
theorem inv_u0 (h : inv sh S p q w X) (v : Int32) : inv sh (uI S 94 0 v) p q w X := inv_rd h (fun j a _ => sI_ne _ _ _ a) rfl (fun _ => rfl) (fun x a _ => (by repeat' (first | exact Sm.rfl | (refine Sm.uI ?_ (by omega)) | (refine Sm.uA ?_ (by omega)) | (refine Sm.uJ ?_ (by omega)) | (refine Sm.uL ?_ (by omega)) | (refine Sm.uR ?_ (by omega)))))
theorem st_pairings (h : inv sh S p q w X) (hf : 1000 ≤ f) : ∃ v S2, F_X8_pairings sh f S 0 = some v ∧ F_X12_pairings sh f S 94 = some (v, S2) ∧ inv sh S2 p q w X := by
  have h0 := h.1
  have li := h0.2.2.2.2.2.2.2.2.2.2
  have l18 : sI (uI S 94 0 0) 94 18 = sI S 0 14 := by rw [sI_ne _ _ _ (by omega)]; exact li.1
  unfold F_X8_pairings F_X12_pairings
  simp only [bnd, l18]
  rcases li.2 with l | l
  · rw [l, if_pos rfl, if_pos rfl]
    exact ⟨_, _, rfl, rfl, inv_u0 h 0⟩
  · obtain ⟨V, v⟩ := h.2.2 l
    have le := v.2.2.1
    rw [l, if_neg (by decide), if_neg (by decide), h0.2.1.2.2.1, Option.bind_some, if_pos (gp_sh h0).1]
    have s17 := (v.2.2.2.1.1 le).2.1
    have lp : ∀ (d i nf : Nat), i + d = (xD X V).length → d < nf → F_X3_allWays_L4 sh f S p.2.2.1 nf (I (osum ((xD X V).take i) : Nat)) (I i) = some (I (osum (xD X V) : Nat)) := by
      intro d
      induction d with
      | zero =>
        intro i nf h1 h2
        obtain ⟨nf, rfl⟩ : ∃ e, nf = e + 1 := ⟨nf - 1, by omega⟩
        have : i = (xD X V).length := by omega
        subst this
        rw [F_X3_allWays_L4, s17, if_pos (by rw [I_leN (by omega) (by omega)]; omega), List.take_length]
      | succ d ih =>
        intro i nf h1 h2
        obtain ⟨nf, rfl⟩ : ∃ e, nf = e + 1 := ⟨nf - 1, by omega⟩
        have hi : (xD X V)[i]? = some ((xD X V)[i]'(by omega)) := List.getElem?_eq_getElem (by omega)
        obtain ⟨cc, e⟩ := enK_of v hi
        have ih' := ih (i + 1) nf (by omega) (by omega)
        rw [take_s hi, osum_app] at ih'
        rw [F_X3_allWays_L4, s17, if_neg (by rw [I_leN (by omega) (by omega)]; omega), c_ways e, Option.bind_some]
        simp only [bnd, I_suc]
        rw [I_add]
        exact ih'
    have a := lp (xD X V).length 0 f (by omega) (by omega)
    have a' : F_X3_allWays sh f S p.2.2.1 = some (I (osum (xD X V) : Nat)) := a
    have b : sI (uI S 94 0 0) (94 + 17) 3 = I (osum (xD X V) : Nat) := by
      rw [sI_row _ _ _ (by omega)]
      exact v.2.2.2.2.2.1.2.1
    rw [a', b]
    exact ⟨_, _, rfl, rfl, inv_u0 h 0⟩
theorem st_point (h : inv sh S p q w X) (x y : Int32) : ∃ v S2, F_X8_point sh f S 0 x y = some v ∧ F_X12_point sh f S 94 x y = some (v, S2) ∧ inv sh S2 p q w X := by
  have h0 := h.1
  have u18 : sI (uI S 94 0 0) 94 18 = sI S 94 18 := sI_ne _ _ _ (by omega)
  have u111 : Sm S (uI S 94 0 0) 111 := (by repeat' (first | exact Sm.rfl | (refine Sm.uI ?_ (by omega)) | (refine Sm.uA ?_ (by omega)) | (refine Sm.uJ ?_ (by omega)) | (refine Sm.uL ?_ (by omega)) | (refine Sm.uR ?_ (by omega))))
  unfold F_X8_point F_X12_point
  simp only [bnd]
  rcases st_ix (f := f) h x with ⟨a, b⟩ | ⟨V, i, d, l, v, rfl, hi, a, b⟩
  · rw [a, b _ u18 u111, Option.bind_some, Option.bind_some, if_pos rfl, if_pos rfl]
    exact ⟨_, _, rfl, rfl, inv_u0 h 0⟩
  · obtain ⟨cc, e⟩ := enK_of v hi
    obtain ⟨e1, e2, e3, e4, e5, e6, e7, e8, e9, e10, e11, eH⟩ := e
    have hV := v.1
    have o1 : sI (uI S 94 0 0) (94 + 17) 1 = I V := by rw [sI_row _ _ _ (by omega)]; exact v.2.2.2.2.2.2.1
    have yv : yV d.2.1 = V := by rw [e4]; rfl
    rw [a, b _ u18 u111, Option.bind_some, Option.bind_some, if_neg (by decide), if_neg (by decide), h0.2.1.2.2.1, Option.bind_some, if_pos (gp_sh h0).1, o1]
    have m1 : I (V : Int) - 1 = I ((V : Int) - 1) := by rw [show (1 : Int32) = I 1 from rfl, I_sub]
    rw [m1]
    unfold F_X3_ruleOf F_X12_in
    rw [e10]
    by_cases c1 : y < 0
    · rw [if_pos c1, if_pos c1]
      exact ⟨_, _, rfl, rfl, inv_u0 h 0⟩
    · rw [if_neg c1, if_neg c1]
      obtain ⟨t, rfl, ht⟩ := I_ex y
      have t0 : 0 ≤ t := by
        rw [show (0 : Int32) = I 0 from rfl, I_lt ht (by omega)] at c1
        omega
      obtain ⟨k, rfl⟩ : ∃ k : Nat, t = (k : Int) := ⟨t.toNat, by omega⟩
      rw [ite_leN (by omega) (by omega)]
      by_cases c2 : V ≤ k
      · rw [if_pos c2, if_pos (by rw [I_lt (by omega) (by omega)]; omega)]
        exact ⟨_, _, rfl, rfl, inv_u0 h 0⟩
      · have cd : F_X3_codeOf sh f S p.2.2.1 (I i) = some (I cc) := by
          unfold F_X3_codeOf
          rw [I_clN (by omega), if_neg (I_bnd e1 (by omega)), e8.2.2.2.1, I_clN (by omega), if_neg (I_bnd e2 (by omega)), e9.1]
        have ru := c_ruleIn (sh := sh) (f := f) (S := S) (V := V) (c := cc) (p := k) hV.2 (by omega) e3
        have ix : (3 : Int32) * I (i : Int) + I (k : Int) = I ((3 * i + k : Nat) : Int) := by
          rw [show (3 : Int32) = I 3 from rfl, I_mul, I_add]; rfl
        have rr : sA (uI S 94 0 0) (94 + 17 + 3) (3 * i + k) = I (yU d.2.1 k) := e11.1 k (by omega)
        have yu : yU d.2.1 k = cdU V cc k := by rw [e4]; rfl
        rw [if_neg c2, if_neg (by rw [I_lt (by omega) (by omega)]; omega), cd, Option.bind_some, ru, Option.bind_some, Option.bind_some, Option.bind_some, if_neg (show ¬ (1 : Int32) = 0 by decide), ix, I_clN (by omega), if_neg (I_bnd (show 3 * i + k < 600 by omega) (by omega)), rr, yu]
        exact ⟨_, _, rfl, rfl, inv_u0 h 0⟩
/-- the state in which an entry is shown: nothing that matters has changed -/
theorem fr_inv {fs cs : List Nat} {T : St} (h : inv sh S p q w X) (F : fr fs cs S T) (a : ∀ j, j ∈ fs → j = 0 ∨ 19 ≤ j) (b : ∀ x, x ∈ cs → 118 ≤ x ∧ x ≤ 155) : inv sh T p q w X := inv_rd h (fun j j0 j1 => F.1 j (fun m => by have := a j m; omega)) F.2.1 (fun j => F.R j) (fun x x0 x1 => F.2.2.2 x x0 (fun m => x1 (b x m)))
theorem st_joined (h : inv sh S p q w X) (hf : 1000 ≤ f) (x y : Int32) : ∃ v S2, F_X8_joined sh f S 0 x y = some v ∧ F_X12_joined sh f S 94 x y = some (v, S2) ∧ inv sh S2 p q w X := by
  have h0 := h.1
  have u18 : sI (uI S 94 0 0) 94 18 = sI S 94 18 := sI_ne _ _ _ (by omega)
  have u111 : Sm S (uI S 94 0 0) 111 := (by repeat' (first | exact Sm.rfl | (refine Sm.uI ?_ (by omega)) | (refine Sm.uA ?_ (by omega)) | (refine Sm.uJ ?_ (by omega)) | (refine Sm.uL ?_ (by omega)) | (refine Sm.uR ?_ (by omega))))
  unfold F_X8_joined F_X12_joined
  simp only [bnd]
  rcases st_ix (f := f) h x with ⟨a, b⟩ | ⟨V, i, d, l, v, rfl, hi, a, b⟩
  · rw [a, b _ u18 u111, Option.bind_some, Option.bind_some, if_pos rfl, if_pos rfl]
    exact ⟨_, _, rfl, rfl, inv_u0 h 0⟩
  · obtain ⟨cc, e⟩ := enK_of v hi
    obtain ⟨z, hz, ck, qo, kr⟩ := q_some h0 v.2.1
    obtain ⟨T, t0, t1, t2, t3⟩ := r_show0 (sh := sh) (f := f) (T := uI S 94 0 0) hf v e (fun x a b => (by repeat' (first | exact Sm.rfl | (refine Sm.uI ?_ (by omega)) | (refine Sm.uA ?_ (by omega)) | (refine Sm.uJ ?_ (by omega)) | (refine Sm.uL ?_ (by omega)) | (refine Sm.uR ?_ (by omega))))) (h0.2.2.2.1.1.trans hz) ck qo (bkR_sm kr (fun x a b => by unfold qOk at qo; exact (by repeat' (first | exact Sm.rfl | (refine Sm.uI ?_ (by omega)) | (refine Sm.uA ?_ (by omega)) | (refine Sm.uJ ?_ (by omega)) | (refine Sm.uL ?_ (by omega)) | (refine Sm.uR ?_ (by omega))))))
    obtain ⟨e1, e2, e3, e4, e5, e6, e7, e8, e9, e10, e11, eH⟩ := e
    have L12 := e5.2.2.2.2.2.2.1
    obtain ⟨w', o', _⟩ := (yHg_mem e5).mp e6
    have iT : inv sh T p q w X := fr_inv (inv_u0 h 0) t3 (by decide) (by decide)
    have t0' : F_X12_shows sh f (uI S 94 0 0) 94 (94 + 17) (I i) = some T := t0
    rw [a, b _ u18 u111, Option.bind_some, Option.bind_some, if_neg (show ¬ (1 : Int32) = 0 by decide), if_neg (show ¬ (1 : Int32) = 0 by decide), h0.2.1.2.2.1, Option.bind_some, if_pos (gp_sh h0).1, t0', Option.bind_some, t1.1]
    have m1 : I (yL d.2.1 : Int) - 1 = I ((yL d.2.1 : Int) - 1) := by rw [show (1 : Int32) = I 1 from rfl, I_sub]
    have lo : F_X3_legsOf sh f S p.2.2.1 (I i) = some (I (yL d.2.1)) := by
      unfold F_X3_legsOf
      rw [I_clN (by omega), if_neg (I_bnd e1 (by omega)), e8.2.2.2.1, I_clN (by omega), if_neg (I_bnd e2 (by omega)), e9.2.1]
    rw [m1]
    unfold F_X3_partnerOf F_X12_in
    rw [lo, Option.bind_some]
    by_cases c1 : y < 0
    · rw [if_pos c1, if_pos c1]
      exact ⟨_, _, rfl, rfl, iT⟩
    · rw [if_neg c1, if_neg c1]
      obtain ⟨t, rfl, ht⟩ := I_ex y
      have tt : 0 ≤ t := by
        rw [show (0 : Int32) = I 0 from rfl, I_lt ht (by omega)] at c1
        omega
      obtain ⟨k, rfl⟩ : ∃ k : Nat, t = (k : Int) := ⟨t.toNat, by omega⟩
      rw [ite_leN (by omega) (by omega)]
      by_cases c2 : yL d.2.1 ≤ k
      · rw [if_pos c2, if_pos (by rw [I_lt (by omega) (by omega)]; omega)]
        exact ⟨_, _, rfl, rfl, iT⟩
      · have pi := c_partnerIn (sh := sh) (f := f) (S := S) (π := d.2.2) (i := k) (by omega)
        have tp : sA T (94 + 40) k = I (d.2.2 k) := t2 k (by omega)
        have e8' : sL S (p.2.2.1 + 1) i = J (e12 d.2.2) := e8.1
        rw [if_neg c2, I_clN (show i < _ by omega), if_neg (I_bnd e1 (by omega)), e8', pi, Option.bind_some, zz_row L12 (fun i hi => (yRw_lt w' hi).1) (by omega), Option.bind_some, if_neg (show ¬ I ((yL d.2.1 : Int) - 1) < I (k : Int) by rw [I_lt (by omega) (by omega)]; omega), Option.bind_some, if_neg (show ¬ (1 : Int32) = 0 by decide), I_clN (show k < _ by omega), if_neg (I_bnd (show k < 12 by omega) (by omega)), tp]
        exact ⟨_, _, rfl, rfl, iT⟩
end ASa
