section M56
variable {sh : List Sh} {S : St} {p : PC} {q : Option Nat} {w : Nat} {X : NS} {f : Nat} {p1 p2 p3 p4 p5 p6 : Int32}
def tS (S : St) (p1 p2 p3 p4 p5 p6 : Int32) : St := uA (uA (uA (uA (uA (uA S 60 0 p1) 60 1 p2) 60 2 p3) 60 3 p4) 60 4 p5) 60 5 p6
theorem tS_av {i : Nat} (hi : i < 6) : sA (tS S p1 p2 p3 p4 p5 p6) 60 i = mav p1 p2 p3 p4 p5 p6 i := by
  have h : i = 0 ∨ i = 1 ∨ i = 2 ∨ i = 3 ∨ i = 4 ∨ i = 5 := by omega
  rcases h with rfl | rfl | rfl | rfl | rfl | rfl <;> rfl
theorem tS_sm {k : Nat} (h : k ≠ 60) : Sm S (tS S p1 p2 p3 p4 p5 p6) k := (by repeat' (first | exact Sm.rfl | (refine Sm.uI ?_ (by omega)) | (refine Sm.uA ?_ (by omega)) | (refine Sm.uJ ?_ (by omega)) | (refine Sm.uL ?_ (by omega)) | (refine Sm.uR ?_ (by omega))))
theorem inv0_tS (h : inv0 sh S p q w X) : inv0 sh (tS S p1 p2 p3 p4 p5 p6) p q w X := by
  obtain ⟨h1, h2, ⟨d1, d2, d3⟩, h4, h5, h6, ⟨h7, h8, h9, h10⟩, h11, h12, h13, h14⟩ := h
  refine ⟨h1, h2, ⟨d1, d2, d3⟩, h4, h5, h6, ⟨h7, bkC_sm h8 (fun k a b => tS_sm (by omega)), h9, fun z hz => ⟨(h10 z hz).1, bkR_sm (h10 z hz).2 (fun k a b => tS_sm ?_)⟩⟩, h11, h12, h13, h14⟩
  have := (h4.2.2.2.2 z hz).2.1
  omega
theorem c_meet0 : F_X8_meeting sh f S 0 p1 p2 p3 p4 p5 p6 = F_X8_meeting_L48 sh f 0 p1 p2 p3 p4 p5 p6 f (tS S p1 p2 p3 p4 p5 p6) (I ((0 : Nat) : Int)) := by
  unfold F_X8_meeting
  rw [if_neg (by decide)]
  simp only [bnd]
  rw [if_neg (by decide), if_neg (by decide), if_neg (by decide), if_neg (by decide), if_neg (by decide)]
  rfl
/-- the state of the numbers after a meeting -/
def mtX (X : NS) (m : Nat) (av : Nat → Int32) : NS := (X.1, X.2.1, m, fun i => (av i).toNatClampNeg, fun _ => 0, X.2.2.2.2.2)
def mW (U : St) (m p1 p2 p3 p4 p5 p6 : Int32) : St := uA (uA (uA (uA (uA (uA (uI (uI (uI (uI U 0 14 0) 0 16 0) 94 0 0) 94 17 m) 108 0 p1) 108 1 p2) 108 2 p3) 108 3 p4) 108 4 p5) 108 5 p6
def mE (V : St) : St := uI (uI (uI (uI V 94 18 0) 94 1 0) 94 2 (-1)) 94 4 (-1)
theorem mW_sm {U : St} {m : Int32} {k : Nat} (h0 : k ≠ 0) (h1 : k ≠ 94) (h2 : k ≠ 108) : Sm U (mW U m p1 p2 p3 p4 p5 p6) k := (by repeat' (first | exact Sm.rfl | (refine Sm.uI ?_ (by omega)) | (refine Sm.uA ?_ (by omega)) | (refine Sm.uJ ?_ (by omega)) | (refine Sm.uL ?_ (by omega)) | (refine Sm.uR ?_ (by omega))))
theorem mE_sm {V : St} {k : Nat} (h1 : k ≠ 94) : Sm V (mE V) k := (by repeat' (first | exact Sm.rfl | (refine Sm.uI ?_ (by omega)) | (refine Sm.uA ?_ (by omega)) | (refine Sm.uJ ?_ (by omega)) | (refine Sm.uL ?_ (by omega)) | (refine Sm.uR ?_ (by omega))))
theorem mW_av {U : St} {m : Int32} {i : Nat} (hi : i < 6) : sA (mW U m p1 p2 p3 p4 p5 p6) 108 i = mav p1 p2 p3 p4 p5 p6 i := by
  have h : i = 0 ∨ i = 1 ∨ i = 2 ∨ i = 3 ∨ i = 4 ∨ i = 5 := by omega
  rcases h with rfl | rfl | rfl | rfl | rfl | rfl <;> rfl
theorem av_kind {x : Int32} {K : Nat} (hK : K ≤ 8) (h : ¬ (x < 0 ∨ I K ≤ x)) : x.toNatClampNeg < K ∧ x = I ((x.toNatClampNeg : Nat) : Int) := by
  obtain ⟨z, rfl, hz⟩ := I_ex x
  rw [show (0 : Int32) = I 0 from rfl, I_lt hz (by omega), I_le (by omega) hz] at h
  rw [I_cl hz]
  refine ⟨by omega, ?_⟩
  congr 1
  omega
theorem st_meeting (h : inv0 sh S p q w X) (hf : 100 ≤ f) : ∃ v S1 S2 X', F_X8_meeting sh f S 0 p1 p2 p3 p4 p5 p6 = some (v, S1) ∧ F_X12_meeting sh f S1 94 p1 p2 p3 p4 p5 p6 = some (v, S2) ∧ inv0 sh S2 p q w X' ∧ X'.2.1 = X.2.1 ∧ (X' = X ∧ sI S2 0 14 = sI S 0 14 ∨ sI S2 0 14 = 0) ∧ ∀ k, k ≠ 0 → k ≠ 44 → k ≠ 45 → k ≠ 46 → k ≠ 60 → k ≠ 94 → k ≠ 108 → k ≠ 109 → Sm S S2 k := by
  have hT := inv0_tS (p1 := p1) (p2 := p2) (p3 := p3) (p4 := p4) (p5 := p5) (p6 := p6) h
  have hv : ∀ i, i < 6 → sA (tS S p1 p2 p3 p4 p5 p6) 60 i = mav p1 p2 p3 p4 p5 p6 i := fun i hi => tS_av hi
  have sT : ∀ k, k ≠ 60 → Sm S (tS S p1 p2 p3 p4 p5 p6) k := fun k hk => tS_sm hk
  rw [c_meet0]
  generalize tS S p1 p2 p3 p4 p5 p6 = T at hT hv sT
  have s14 : sI T 0 14 = sI S 0 14 := (sT 0 (by omega)).I 14
  have kb := pc0 hT
  obtain ⟨b1, b2, b3, b4⟩ := hT.2.2.2.2.2.2.1
  obtain ⟨hq, hw, hw', hw'', hz⟩ := hT.2.2.2.1
  have hK8 := b1.1.1
  have fin : ∀ x : Int32, x ≠ 4 ∧ x ≠ 5 → inv0 sh (rfS T x) p q w X ∧ X.2.1 = X.2.1 ∧ (X = X ∧ sI (rfS T x) 0 14 = sI S 0 14 ∨ sI (rfS T x) 0 14 = 0) ∧ ∀ k, k ≠ 0 → k ≠ 44 → k ≠ 45 → k ≠ 46 → k ≠ 60 → k ≠ 94 → k ≠ 108 → k ≠ 109 → Sm S (rfS T x) k := fun x hx => ⟨inv0_d hT hx, rfl, Or.inl ⟨rfl, s14⟩, fun k k0 _ _ _ k1 k2 _ _ => (sT k k1).trans (rfS_sm k0 k2)⟩
  rw [c_scan hT.2.1.1 kb b2.1 hK8 hv 6 0 f (by omega) (by omega)]
  cases hq' : q with
  | none =>
    have c : sI T p.1 9 ≤ 0 := by rw [b2.1, b3 hq']; decide
    have hn : sR (uI (uI T 0 16 1) 94 0 0) 94 5 = none := hq.trans hq'
    have r : F_X12_meeting sh f (uI T 0 16 1) 94 p1 p2 p3 p4 p5 p6 = some (-1, rfS T 1) := by
      simp only [F_X12_meeting, bnd, hn, oN, F_X12_refused, Option.bind_some]
      rfl
    cases hs : scan (bK X.2.1) (mav p1 p2 p3 p4 p5 p6) 6 0 with
    | none => exact ⟨-1, uI T 0 16 1, rfS T 1, X, rfl, r, hq' ▸ fin 1 (by decide)⟩
    | some m =>
      refine ⟨-1, uI T 0 16 1, rfS T 1, X, ?_, r, hq' ▸ fin 1 (by decide)⟩
      simp only [F_X8_meeting_L95, hT.2.1.1, Option.bind_some, if_pos kb, F_X0_isTold, if_pos c, if_true, F_X8_refused, bnd]
  | some z =>
    obtain ⟨z1, z2, z3⟩ := hz z hq'
    have c : ¬ sI T p.1 9 ≤ 0 := by
      rw [b2.1, show (0 : Int32) = I 0 from rfl, I_le (by omega) (by omega)]
      have := (b4 z hq').1
      omega
    have rs : ∀ T' : St, sR T' = sR T → (∀ k, k ≠ 0 → k ≠ 44 → k ≠ 94 → sI T' k = sI T k) → F_X12_meeting sh f T' 94 p1 p2 p3 p4 p5 p6 = (match scan (bK X.2.1) (mav p1 p2 p3 p4 p5 p6) 6 0 with
        | none => some (-1, uI (uI (uI (uI T' 94 0 0) 94 1 1) 94 2 (-1)) 94 4 (-1))
        | some m => F_X12_meeting_L139 sh f 94 p1 p2 p3 p4 p5 p6 (uI T' 94 0 0) (I m)) := by
      intro T' e1 e2
      have hn : sR (uI T' 94 0 0) 94 5 = some z := (congrFun (congrFun e1 94) 5).trans (hq.trans hq')
      have hk : sI (uI T' 94 0 0) z 0 = I (bK X.2.1) := by
        rw [sI_uI, if_neg (by omega), e2 z (by omega) (by omega) (by omega)]
        exact (b4 z hq').2.1
      simp only [F_X12_meeting, bnd, hn, oN]
      exact r_scan hn z1 hk hK8 6 0 f (by omega) (by omega)
    cases hs : scan (bK X.2.1) (mav p1 p2 p3 p4 p5 p6) 6 0 with
    | none =>
      refine ⟨-1, uI T 0 16 1, rfS T 1, X, rfl, ?_, hq' ▸ fin 1 (by decide)⟩
      rw [rs (uI T 0 16 1) rfl (fun k k0 _ _ => sI_row _ _ _ k0), hs]
      rfl
    | some m =>
      obtain ⟨m1, m2, m3⟩ := scan_le 6 0 m hs
      by_cases m4 : 2 ≤ m
      · have c2 : (2 : Int32) ≤ I m := by rw [show (2 : Int32) = I ((2 : Nat) : Int) from rfl, I_leN (by omega) (by omega)]; exact m4
        obtain ⟨U, u1, u2, u3, u4, u5, u6, u7, u8⟩ := c_adds (sh := sh) (f := f) (p1 := p1) (p2 := p2) (p3 := p3) (p4 := p4) (p5 := p5) (p6 := p6) (av := mav p1 p2 p3 p4 p5 p6) (m := m) (by omega) m 0 f (uI T 44 2 0) (by omega) (by omega) (sI_self _ _ _ _) hv (fun i hi => by omega)
        have uT : ∀ c, c ≠ 44 → c ≠ 45 → c ≠ 46 → Sm T U c := fun c a1 a2 a3 => Sm.trans (uI_o a1) (u4 c a1 a2 a3)
        have uI' : ∀ c, c ≠ 44 → sI U c = sI T c := fun c hc => (u8 c hc).trans (sI_row _ _ _ hc)
        obtain ⟨V, v1, v2, v3, v4, v5, v6, v7⟩ := r_zero (sh := sh) (f := f) (p1 := p1) (p2 := p2) (p3 := p3) (p4 := p4) (p5 := p5) (p6 := p6) (m := I m) 6 0 f (mW U (I m) p1 p2 p3 p4 p5 p6) (by omega) (by omega) (fun i hi => by omega)
        have eR : sR (mE V) = sR T := v4.trans u5
        have eJ : sJ (mE V) = sJ T := v5.trans u6
        have eL : sL (mE V) = sL T := v6.trans u7
        have sm : ∀ k, k ≠ 0 → k ≠ 44 → k ≠ 45 → k ≠ 46 → k ≠ 94 → k ≠ 108 → k ≠ 109 → Sm T (mE V) k := fun k k0 k1 k2 k3 k4 k5 k6 => ((uT k k1 k2 k3).trans (mW_sm k0 k4 k5)).trans ((v3 k k6).trans (mE_sm k4))
        have eI : ∀ a b, sI V a b = sI (mW U (I m) p1 p2 p3 p4 p5 p6) a b := fun a b => congrFun (congrFun v7 a) b
        have eA : ∀ a, a ≠ 109 → sA V a = sA (mW U (I m) p1 p2 p3 p4 p5 p6) a := fun a ha => (v3 a ha).1
        refine ⟨I m, uI (uI U 0 14 0) 0 16 0, mE V, mtX X m (mav p1 p2 p3 p4 p5 p6), ?_, ?_, ?_, rfl, Or.inr ?_, ?_⟩
        · simp only [F_X8_meeting_L95, hT.2.1.1, Option.bind_some, if_pos kb, F_X0_isTold, if_neg c, if_neg i10, if_pos c2, F_X1_clear, bnd]
          exact u1
        · rw [rs (uI (uI U 0 14 0) 0 16 0) u5 (fun k k0 k1 k2 => by
            show up2 (up2 U.2.2.1 0 14 0) 0 16 0 k = _
            rw [up2_row _ _ _ k0, up2_row _ _ _ k0]
            exact uI' k k1), hs]
          simp only [F_X12_meeting_L139, if_pos c2, bnd]
          rw [if_neg (by decide), if_neg (by decide), if_neg (by decide), if_neg (by decide), if_neg (by decide), if_neg (by decide)]
          exact v1
        · obtain ⟨h1, h2, ⟨d1, d2, d3⟩, h4, ⟨t1, t2, t3, t4⟩, ⟨r1, r2, r3, r4⟩, ⟨h7, h8, h9, h10⟩, ⟨e1, e2, e3, e4, e5⟩, h12, h13, ⟨l1, l2⟩⟩ := hT
          refine hq' ▸ ⟨h1, ?_, ⟨d1, d2, d3⟩, ?_, ⟨t1, ?_, ?_, ?_⟩, ⟨?_, ?_, ?_, ?_⟩, ⟨h7, bkC_sm h8 (fun k a b => sm k (by omega) (by omega) (by omega) (by omega) (by omega) (by omega) (by omega)), h9, fun y hy => ⟨(h10 y hy).1, bkR_sm (h10 y hy).2 (fun k a b => ?_)⟩⟩, ⟨?_, ?_, ?_, fun _ => ⟨m4, (h10 z hq').1⟩, fun i hi => ?_⟩, fun i hi => ?_, ?_, ⟨?_, Or.inl ?_⟩⟩
          · unfold ptC; rw [eR]; exact h2
          · unfold ptR; rw [eR]; exact h4
          · exact (eI 1 1).trans ((congrFun (uI' 1 (by omega)) 1).trans t2)
          · exact (eI 94 9).trans ((congrFun (uI' 94 (by omega)) 9).trans t3)
          · exact ⟨((sm 2 (by omega) (by omega) (by omega) (by omega) (by omega) (by omega) (by omega)).1.trans t4.1).trans (sm 107 (by omega) (by omega) (by omega) (by omega) (by omega) (by omega) (by omega)).1.symm, fun i => by rw [(sm 2 (by omega) (by omega) (by omega) (by omega) (by omega) (by omega) (by omega)).1]; exact t4.2 i⟩
          · exact ((eI 94 3).trans (congrFun (uI' 94 (by omega)) 3)).trans (r1.trans ((eI 1 8).trans (congrFun (uI' 1 (by omega)) 8)).symm)
          · exact (eI 0 16).symm
          · rw [if_neg]
            · rfl
            · rw [show sI (mE V) 0 16 = 0 from eI 0 16]; decide
          · rw [if_neg]
            · rfl
            · rw [show sI (mE V) 0 16 = 0 from eI 0 16]; decide
          · have := (h4.2.2.2.2 y hy).2.1
            exact sm k (by omega) (by omega) (by omega) (by omega) (by omega) (by omega) (by omega)
          · show m ≤ 6; omega
          · exact (eI 44 2).trans u2
          · exact eI 94 17
          · obtain ⟨k1, k2⟩ := av_kind hK8 (m3 i (by omega) hi)
            have i6 : i < 6 := by have : i < m := hi; omega
            refine ⟨k1, (by omega : (-999 : Int) ≤ 0), (by omega : (0 : Int) ≤ 999), ?_, ?_, ?_, ?_⟩
            · exact (congrFun (eA 45 (by omega)) i).trans ((u3 i hi).1.trans k2)
            · exact (congrFun (eA 108 (by omega)) i).trans ((mW_av i6).trans k2)
            · exact (congrFun (eA 46 (by omega)) i).trans (u3 i hi).2
            · exact v2 i i6
          · rw [(sm 59 (by omega) (by omega) (by omega) (by omega) (by omega) (by omega) (by omega)).1, (sm 110 (by omega) (by omega) (by omega) (by omega) (by omega) (by omega) (by omega)).1]; exact h12 i hi
          · have q15 : sI (mE V) 0 15 = sI T 0 15 := (eI 0 15).trans (congrFun (uI' 0 (by omega)) 15)
            unfold anR
            rw [eJ, eL, q15, (sm 156 (by omega) (by omega) (by omega) (by omega) (by omega) (by omega) (by omega)).1]
            exact h13
          · exact (eI 0 14).symm
          · exact eI 0 14
        · exact eI 0 14
        · exact fun k k0 k1 k2 k3 k4 k5 k6 k7 => (sT k k4).trans (sm k k0 k1 k2 k3 k5 k6 k7)
      · have c2 : ¬ (2 : Int32) ≤ I m := by rw [show (2 : Int32) = I ((2 : Nat) : Int) from rfl, I_leN (by omega) (by omega)]; exact m4
        refine ⟨-1, uI T 0 16 2, rfS T 2, X, ?_, ?_, hq' ▸ fin 2 (by decide)⟩
        · simp only [F_X8_meeting_L95, hT.2.1.1, Option.bind_some, if_pos kb, F_X0_isTold, if_neg c, if_neg i10, if_neg c2, F_X8_refused, bnd]
        · rw [rs (uI T 0 16 2) rfl (fun k k0 _ _ => sI_row _ _ _ k0), hs]
          simp only [F_X12_meeting_L139, if_neg c2, F_X12_refused, bnd, Option.bind_some]
          rfl
end M56
