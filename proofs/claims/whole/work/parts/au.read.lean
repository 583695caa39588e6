section AUa
variable {sh : List Sh} {S : St} {p : PC} {q : Option Nat} {w : Nat} {X : NS} {f : Nat}
theorem cl_app {Y : Ly} {ρ : Nat → Nat} (m : Nat) : ∀ d, ∃ E, cl Y ρ (m + d) = cl Y ρ m ++ E
  | 0 => ⟨[], by rw [List.append_nil]; rfl⟩
  | d + 1 => by
    obtain ⟨E, e⟩ := cl_app m d
    rw [show m + (d + 1) = m + d + 1 by omega, cl_s, e]
    exact ⟨_, List.append_assoc _ _ _⟩
theorem cl_at {Y : Ly} {ρ : Nat → Nat} {m k L : Nat} (hm : m < L) (c : cutB Y ρ m = true) (e : (cl Y ρ m).length = k) : k < (cl Y ρ L).length ∧ (cl Y ρ L).getD k 0 = m := by
  obtain ⟨E, h⟩ := cl_app (Y := Y) (ρ := ρ) (m + 1) (L - (m + 1))
  rw [show m + 1 + (L - (m + 1)) = L by omega, cl_s, if_pos c] at h
  rw [h]
  constructor
  · rw [List.length_append, List.length_append, List.length_singleton]
    omega
  · rw [List.getD_eq_getElem?_getD, List.getElem?_append_left (by rw [List.length_append, List.length_singleton]; omega), List.getElem?_append_right (by omega), e, Nat.sub_self]
    rfl
theorem inv_158 (h : inv sh S p q w X) (v : Int64) : inv sh (uL S 158 0 v) p q w X := by
  obtain ⟨⟨h1, h2, h3, h4, h5, h6, h7, h8, h9, h10, h11⟩, h12, h13⟩ := h
  have pa : p.2.2.2.2.1 = 88 ∨ p.2.2.2.2.1 = 91 := by have := h3.2.2; omega
  exact inv_keep (S := S) ⟨⟨h1, h2, h3, h4, h5, h6, h7, h8, h9, h10, h11⟩, h12, h13⟩ ⟨h1, h2, h3, h4, h5, h6, h7, h8, h9, anR_sm h10 rfl rfl (by repeat' (first | exact Sm.rfl | (refine Sm.uI ?_ (by omega)) | (refine Sm.uA ?_ (by omega)) | (refine Sm.uJ ?_ (by omega)) | (refine Sm.uL ?_ (by omega)) | (refine Sm.uR ?_ (by omega)))) (by repeat' (first | exact Sm.rfl | (refine Sm.uI ?_ (by omega)) | (refine Sm.uA ?_ (by omega)) | (refine Sm.uJ ?_ (by omega)) | (refine Sm.uL ?_ (by omega)) | (refine Sm.uR ?_ (by omega)))) (by repeat' (first | exact Sm.rfl | (refine Sm.uI ?_ (by omega)) | (refine Sm.uA ?_ (by omega)) | (refine Sm.uJ ?_ (by omega)) | (refine Sm.uL ?_ (by omega)) | (refine Sm.uR ?_ (by omega)))), h11⟩ rfl rfl rfl rfl rfl (fun x hx => (by repeat' (first | exact Sm.rfl | (refine Sm.uI ?_ (by omega)) | (refine Sm.uA ?_ (by omega)) | (refine Sm.uJ ?_ (by omega)) | (refine Sm.uL ?_ (by omega)) | (refine Sm.uR ?_ (by omega)))))
theorem inv_app (h : inv sh S p q w X) (tl : List Sh) : inv (sh ++ tl) S p q w X := by
  obtain ⟨⟨h1, h2, h3, ⟨r1, r2, r3, r4, r5⟩, h5⟩, h12, h13⟩ := h
  refine ⟨⟨?_, h2, h3, ⟨r1, r2, ck_app tl r3, r4, fun z hz => ⟨ck_app tl (r5 z hz).1, (r5 z hz).2⟩⟩, h5⟩, h12, h13⟩
  obtain ⟨t, rfl⟩ := h1
  exact ⟨t ++ tl, List.append_assoc _ _ _⟩
/-- the reference looks for the k-th cut -/
theorem r_side40 {Y : Ly} {ρ : Nat → Nat} {z k : Nat} {x : Int32} {T0 : St} (hf : 1000 ≤ f) (ok : yOk Y) (w0 : yRw Y ρ) (c0 : cn Y ρ) (h0 : shC sh T0 Y ρ z) (hk : k < 2147483648) : ∀ (d m nf : Nat) (T : St), m + d = yL Y → d < nf → (∀ x, x ≠ 136 → Sm T0 T x) → (cl Y ρ m).length ≤ k → ∃ v T', F_X12_side_L40 sh f 94 x (I k) nf T (I ((k : Int) - (cl Y ρ m).length)) (I m) = some (v, T') ∧ (k < (cl Y ρ (yL Y)).length ∧ v = I (sdN Y ρ ((cl Y ρ (yL Y)).getD k 0)) ∧ (∀ x, x ≠ 136 → x ≠ 94 → Sm T0 T' x) ∧ (∀ j, j ≠ 0 → sI T' 94 j = sI T0 94 j) ∧ sI T' 94 0 = 0 ∧ sJ T' 94 = sJ T0 94 ∧ sR T' 94 = sR T0 94 ∨ (cl Y ρ (yL Y)).length ≤ k ∧ ∀ x, x ≠ 136 → Sm T0 T' x) := by
  have L12 := ok.2.2.2.2.2.2.1
  have k0 : ¬ I (k : Int) < 0 := by
    rw [show (0 : Int32) = I ((0 : Nat) : Int) from rfl, I_ltN (by omega) (by omega)]
    omega
  intro d
  induction d with
  | zero =>
    intro m nf T h1 h2 fT le
    obtain ⟨nf, rfl⟩ : ∃ e, nf = e + 1 := ⟨nf - 1, by omega⟩
    have : m = yL Y := by omega
    subst this
    rw [F_X12_side_L40, (shC_sm h0 fT).1.1, if_pos (by rw [I_leN (by omega) (by omega)]; omega)]
    exact ⟨_, T, rfl, Or.inr ⟨le, fT⟩⟩
  | succ d ih =>
    intro m nf T h1 h2 fT le
    obtain ⟨nf, rfl⟩ : ∃ e, nf = e + 1 := ⟨nf - 1, by omega⟩
    have hT := shC_sm h0 fT
    obtain ⟨U, u0, u1, _⟩ := r_sideOf (sh := sh) (f := f) hf ok w0 c0 hT (show m < yL Y by omega)
    have fU : ∀ x, x ≠ 136 → Sm T0 U x := fun x hx => (fT x hx).trans (u1 x hx)
    rw [F_X12_side_L40, hT.1.1, if_neg (by rw [I_leN (by omega) (by omega)]; omega), if_neg k0, u0, Option.bind_some]
    simp only [bnd]
    have st := cl_s (Y := Y) (ρ := ρ) m
    by_cases c : cutB Y ρ m = true
    · rw [if_pos c] at st
      rw [if_pos c, if_neg (I_sd ok m)]
      by_cases e : (cl Y ρ m).length = k
      · obtain ⟨g1, g2⟩ := cl_at (show m < yL Y by omega) c e
        rw [if_pos (by rw [e, show (0 : Int32) = I 0 from rfl]; congr 1; omega)]
        refine ⟨_, _, rfl, Or.inl ⟨g1, by rw [g2], fun x a b => (fU x a).trans (by repeat' (first | exact Sm.rfl | (refine Sm.uI ?_ (by omega)) | (refine Sm.uA ?_ (by omega)) | (refine Sm.uJ ?_ (by omega)) | (refine Sm.uL ?_ (by omega)) | (refine Sm.uR ?_ (by omega)))), fun j hj => by rw [sI_ne _ _ _ hj]; exact (fU 94 (by omega)).I j, sI_self _ _ _ _, (fU 94 (by omega)).2.2.2.1, (fU 94 (by omega)).2.2.2.2⟩⟩
      · have ih' := ih (m + 1) nf U (by omega) (by omega) fU (by rw [st, List.length_append, List.length_singleton]; omega)
        rw [st, List.length_append, List.length_singleton] at ih'
        have e2 : I ((k : Int) - (cl Y ρ m).length) + (-1) = I ((k : Int) - ((cl Y ρ m).length + 1 : Nat)) := by
          rw [show (-1 : Int32) = I (-1) from rfl, I_add]
          congr 1
          omega
        rw [if_neg (by rw [show (0 : Int32) = I 0 from rfl, I_eq (by omega) (by omega)]; omega), e2, I_suc]
        exact ih'
    · rw [if_neg c, List.append_nil] at st
      have ih' := ih (m + 1) nf U (by omega) (by omega) fU (by rw [st]; exact le)
      rw [st] at ih'
      rw [if_neg c, if_pos rfl, I_suc]
      exact ih'
theorem st_side (h : inv sh S p q w X) (hf : 1000 ≤ f) (x y : Int32) : ∃ sh' k S1 v S2, F_L_side sh f S 0 x y 158 = some (sh', k, S1) ∧ (sh' = sh ∨ sh' = sh ++ exSh) ∧ F_X12_side sh' f S1 94 x y = some (v, S2) ∧ F_X12_thrown sh' f S2 94 = some k ∧ (k = 0 → lg_cmp (sL S2 158 0) v.toInt64 = 0) ∧ inv sh' S2 p q w X := by
  have h0 := h.1
  have no : ∀ v S2, F_X8_side sh f S 0 x y = some (.inr S) → F_X12_side (sh ++ exSh) f S 94 x y = some (v, S2) → sI S2 94 0 = 1 → inv (sh ++ exSh) S2 p q w X → ∃ sh' k S1 v S2, F_L_side sh f S 0 x y 158 = some (sh', k, S1) ∧ (sh' = sh ∨ sh' = sh ++ exSh) ∧ F_X12_side sh' f S1 94 x y = some (v, S2) ∧ F_X12_thrown sh' f S2 94 = some k ∧ (k = 0 → lg_cmp (sL S2 158 0) v.toInt64 = 0) ∧ inv sh' S2 p q w X := by
    intro v S2 a b c d
    refine ⟨sh ++ exSh, 1, S, v, S2, ?_, Or.inr rfl, b, ?_, fun e => absurd e (by decide), d⟩
    · unfold F_L_side
      rw [a]
      rfl
    · unfold F_X12_thrown
      rw [c]
  have hA := inv_app h exSh
  have u18 : ∀ T : St, sI (uI T 94 0 1) 94 18 = sI T 94 18 := fun T => sI_ne _ _ _ (by omega)
  have u111 : ∀ T : St, Sm T (uI T 94 0 1) 111 := fun T => (by repeat' (first | exact Sm.rfl | (refine Sm.uI ?_ (by omega)) | (refine Sm.uA ?_ (by omega)) | (refine Sm.uJ ?_ (by omega)) | (refine Sm.uL ?_ (by omega)) | (refine Sm.uR ?_ (by omega))))
  rcases st_ix (f := f) h x with ⟨a, b⟩ | ⟨V, i, d, l, v, rfl, hi, a, b⟩
  · refine no 0 (uI S 94 0 1) ?_ ?_ (sI_self _ _ _ _) (inv_u0 hA 1)
    · unfold F_X8_side
      rw [a, Option.bind_some, if_pos rfl]
    · have b' : F_X12_isDrawing (sh ++ exSh) f (uI S 94 0 1) 94 x = some 0 := b _ (u18 S) (u111 S)
      unfold F_X12_side
      simp only [bnd]
      rw [b', Option.bind_some, if_pos rfl]
  · obtain ⟨cc, e⟩ := enK_of v hi
    have o1 : ∀ T : St, Sm S T 111 → sI (uI T 94 0 1) (94 + 17) 1 = I V := fun T t => by rw [sI_row _ _ _ (by omega), t.I]; exact v.2.2.2.2.2.2.1
    have e' := e
    obtain ⟨e1, e2, e3, e4, e5, e6, e7, e8, e9, e10, e11, eH⟩ := e'
    obtain ⟨w', o', c'⟩ := (yHg_mem e5).mp e6
    have L12 := e5.2.2.2.2.2.2.1
    have cl2 := cl_len e5 w' c'.2
    have ec : sA S (p.2.2.1 + 5) i = I (cl d.2.1 d.2.2 (yL d.2.1)).length := e8.2.2.2.2.1
    -- the class
    have cls : F_X8_side sh f S 0 (I i) y = (F_X3_hasCut sh f S p.2.2.1 (I i) y).bind fun y3 => if y3 = 0 then some (.inr S) else (F_X3_sideOf sh f S p.2.2.1 (I i) y).bind fun y4 => some (.inl (y4, S)) := by
      unfold F_X8_side
      rw [a, Option.bind_some, if_neg (show ¬ (1 : Int32) = 0 by decide), h0.2.1.2.2.1, Option.bind_some, if_pos (gp_sh h0).1]
    by_cases c1 : y < 0
    · have cl0 : F_X8_side sh f S 0 (I i) y = some (.inr S) := by
        rw [cls]
        unfold F_X3_hasCut
        rw [if_pos c1, Option.bind_some, if_pos rfl]
      obtain ⟨z, T, t0, t1, iT, tk, t94, _⟩ := st_show (sh := sh ++ exSh) (v0 := 1) hA hf v e
      have t0' : F_X12_shows (sh ++ exSh) f (uI (uI S 94 0 1) 94 40 (I V)) 94 (94 + 17) (I i) = some T := t0
      have b' : F_X12_isDrawing (sh ++ exSh) f (uI S 94 0 1) 94 (I i) = some 1 := b _ (u18 S) (u111 S)
      refine no 0 T cl0 ?_ t94 iT
      obtain ⟨g, rfl⟩ : ∃ g, f = g + 1 := ⟨f - 1, by omega⟩
      unfold F_X12_side
      simp only [bnd]
      rw [b', Option.bind_some, if_neg (show ¬ (1 : Int32) = 0 by decide), o1 S Sm.rfl, t0', Option.bind_some, F_X12_side_L40, t1.1.1]
      have nl := N_le e5
      have n1 := e5.2.1
      rw [if_neg (by rw [show (0 : Int32) = I ((0 : Nat) : Int) from rfl, I_leN (by omega) (by omega)]; omega), if_pos c1]
    · obtain ⟨t, rfl, ht⟩ := I_ex y
      have tt : 0 ≤ t := by
        rw [show (0 : Int32) = I 0 from rfl, I_lt ht (by omega)] at c1
        omega
      obtain ⟨k, rfl⟩ : ∃ k : Nat, t = (k : Int) := ⟨t.toNat, by omega⟩
      have hc : F_X3_hasCut sh f S p.2.2.1 (I i) (I k) = some (if (cl d.2.1 d.2.2 (yL d.2.1)).length ≤ k then 0 else 1) := by
        unfold F_X3_hasCut
        rw [if_neg c1, I_clN (show i < _ by omega), if_neg (I_bnd e1 (by omega)), ec, ite_leN (by omega) (by omega)]
        by_cases c : (cl d.2.1 d.2.2 (yL d.2.1)).length ≤ k
        · rw [if_pos c, if_pos c]
        · rw [if_neg c, if_neg c]
      by_cases c2 : (cl d.2.1 d.2.2 (yL d.2.1)).length ≤ k
      · have cl0 : F_X8_side sh f S 0 (I i) (I k) = some (.inr S) := by
          rw [cls, hc, if_pos c2, Option.bind_some, if_pos rfl]
        obtain ⟨z, T, t0, t1, iT, tk, t94, _⟩ := st_show (sh := sh ++ exSh) (v0 := 1) hA hf v e
        have t0' : F_X12_shows (sh ++ exSh) f (uI (uI S 94 0 1) 94 40 (I V)) 94 (94 + 17) (I i) = some T := t0
        have b' : F_X12_isDrawing (sh ++ exSh) f (uI S 94 0 1) 94 (I i) = some 1 := b _ (u18 S) (u111 S)
        obtain ⟨rv, T', s0, s1⟩ := r_side40 (x := I i) (k := k) hf e5 w' c' t1 (by omega) (yL d.2.1) 0 f T (by omega) (by omega) (fun _ _ => Sm.rfl) (Nat.zero_le _)
        have s0' : F_X12_side_L40 (sh ++ exSh) f 94 (I i) (I k) f T (I k) 0 = some (rv, T') := by
          have e0 : ((k : Int) - ((cl d.2.1 d.2.2 0).length : Nat)) = (k : Int) := by
            have : (cl d.2.1 d.2.2 0).length = 0 := rfl
            omega
          rw [e0] at s0
          exact s0
        rcases s1 with ⟨s1, _⟩ | ⟨_, s1⟩
        · omega
        · refine no rv T' cl0 ?_ (by rw [(s1 94 (by omega)).I]; exact t94) (inv_136 iT s1)
          unfold F_X12_side
          simp only [bnd]
          rw [b', Option.bind_some, if_neg (show ¬ (1 : Int32) = 0 by decide), o1 S Sm.rfl, t0', Option.bind_some, s0']
      · have ix : I (i : Int) * 2 + I (k : Int) = I ((2 * i + k : Nat) : Int) := by
          rw [show (2 : Int32) = I 2 from rfl, I_mul, I_add]
          congr 1
          omega
        have sv := (e8.2.2.2.2.2.2 k (by omega)).1
        have cl0 : F_X8_side sh f S 0 (I i) (I k) = some (.inl (I (sdN d.2.1 d.2.2 ((cl d.2.1 d.2.2 (yL d.2.1)).getD k 0)), S)) := by
          rw [cls, hc, if_neg c2, Option.bind_some, if_neg (show ¬ (1 : Int32) = 0 by decide)]
          unfold F_X3_sideOf
          rw [ix, I_clN (by omega), if_neg (I_bnd (show 2 * i + k < 400 by omega) (by omega)), sv, Option.bind_some]
        generalize hv : I (sdN d.2.1 d.2.2 ((cl d.2.1 d.2.2 (yL d.2.1)).getD k 0) : Int) = vv at *
        have h1 := inv_158 h vv.toInt64
        have v1 : liV (uL S 158 0 vv.toInt64) p.2.2.1 X V := liV_sm v rfl rfl rfl (fun x a b => by have := pg h0; exact (by repeat' (first | exact Sm.rfl | (refine Sm.uI ?_ (by omega)) | (refine Sm.uA ?_ (by omega)) | (refine Sm.uJ ?_ (by omega)) | (refine Sm.uL ?_ (by omega)) | (refine Sm.uR ?_ (by omega))))) (fun x a b => (by repeat' (first | exact Sm.rfl | (refine Sm.uI ?_ (by omega)) | (refine Sm.uA ?_ (by omega)) | (refine Sm.uJ ?_ (by omega)) | (refine Sm.uL ?_ (by omega)) | (refine Sm.uR ?_ (by omega)))))
        obtain ⟨cc', ee⟩ := enK_of v1 hi
        obtain ⟨z, T, t0, t1, iT, tk, t94, tf⟩ := st_show (sh := sh) (v0 := 1) h1 hf v1 ee
        have t0' : F_X12_shows sh f (uI (uI (uL S 158 0 vv.toInt64) 94 0 1) 94 40 (I V)) 94 (94 + 17) (I i) = some T := t0
        have b' : F_X12_isDrawing sh f (uI (uL S 158 0 vv.toInt64) 94 0 1) 94 (I i) = some 1 := b _ (by rw [u18]; rfl) (by repeat' (first | exact Sm.rfl | (refine Sm.uI ?_ (by omega)) | (refine Sm.uA ?_ (by omega)) | (refine Sm.uJ ?_ (by omega)) | (refine Sm.uL ?_ (by omega)) | (refine Sm.uR ?_ (by omega))))
        obtain ⟨rv, T', s0, s1⟩ := r_side40 (x := I i) (k := k) hf e5 w' c' t1 (by omega) (yL d.2.1) 0 f T (by omega) (by omega) (fun _ _ => Sm.rfl) (Nat.zero_le _)
        have s0' : F_X12_side_L40 sh f 94 (I i) (I k) f T (I k) 0 = some (rv, T') := by
          have e0 : ((k : Int) - ((cl d.2.1 d.2.2 0).length : Nat)) = (k : Int) := by
            have : (cl d.2.1 d.2.2 0).length = 0 := rfl
            omega
          rw [e0] at s0
          exact s0
        rcases s1 with ⟨_, s2, s3, s4, s5, s6, s7⟩ | ⟨s1, _⟩
        · refine ⟨sh, 0, uL S 158 0 vv.toInt64, rv, T', ?_, Or.inl rfl, ?_, ?_, fun _ => ?_, ?_⟩
          · unfold F_L_side
            rw [cl0]
            rfl
          · unfold F_X12_side
            simp only [bnd]
            rw [b', Option.bind_some, if_neg (show ¬ (1 : Int32) = 0 by decide), o1 (uL S 158 0 vv.toInt64) (by repeat' (first | exact Sm.rfl | (refine Sm.uI ?_ (by omega)) | (refine Sm.uA ?_ (by omega)) | (refine Sm.uJ ?_ (by omega)) | (refine Sm.uL ?_ (by omega)) | (refine Sm.uR ?_ (by omega)))), t0', Option.bind_some, s0']
          · unfold F_X12_thrown
            rw [s5]
          · rw [lgc, (s3 158 (by omega) (by omega)).L, (tf.2.2.2 158 (by omega) (by decide)).L, sL_uL, if_pos rfl, up1_self, s2, hv]
          · exact inv_rd iT (fun j j0 _ => s4 j j0) s6 (fun j => congrFun s7 j) (fun x a b => s3 x (by omega) a)
        · omega
end AUa
