/-! THE POLE of the reference is the one of the class. -/
section CAx
theorem lgs_f (Y : Ly) (ρ : Nat → Nat) (w : Int) : ∀ d m, lgs Y ρ w d m = ((List.range' m d).filter (cutB Y ρ)).filter (fun x : Nat => decide ((x : Int) ≠ w))
  | 0, m => rfl
  | d + 1, m => by
    rw [lgs, lgs_f Y ρ w d (m + 1), List.range'_succ, List.filter_cons]
    by_cases c : cutB Y ρ m = true
    · rw [if_pos c, List.filter_cons]
      by_cases z : (m : Int) = w
      · rw [if_neg (fun x => x.2 z), if_neg (by rw [decide_eq_true_iff]; exact fun x => x z)]
      · rw [if_pos ⟨c, z⟩, if_pos (by rw [decide_eq_true_iff]; exact z)]
    · rw [if_neg (fun x => c x.1), if_neg c]
theorem lgs_cl (Y : Ly) (ρ : Nat → Nat) (w : Int) : lgs Y ρ w (yL Y) 0 = (cl Y ρ (yL Y)).filter (fun x : Nat => decide ((x : Int) ≠ w)) := by
  rw [lgs_f, ← List.range_eq_range']
  rfl
/-- all cuts -/
theorem lgs_all (kd : Nat) (d : Dw) : lgs d.2.1 d.2.2 (-1) (yL d.2.1) 0 = byW 0 kd d := by
  rw [lgs_cl]
  unfold byW wOf
  rw [if_pos rfl, wlX_n _ _ (Nat.le_refl _), List.take_length]
  exact List.filter_eq_self.mpr (fun x _ => by rw [decide_eq_true_iff]; omega)
/-- all but the one that is asked for -/
theorem lgs_one {d : Dw} {V sd kd : Nat} (ok : yOk d.2.1) (w : yRw d.2.1 d.2.2) (c : cn d.2.1 d.2.2) (yv : yV d.2.1 = V) (tr : trB V d = true) (s0 : sd ≠ 0) : (fcF d.2.1 d.2.2 sd kd (yL d.2.1) 0 = -1 ↔ usd V sd kd d = false) ∧ -1 ≤ fcF d.2.1 d.2.2 sd kd (yL d.2.1) 0 ∧ fcF d.2.1 d.2.2 sd kd (yL d.2.1) 0 < 12 ∧ (usd V sd kd d = true → lgs d.2.1 d.2.2 (fcF d.2.1 d.2.2 sd kd (yL d.2.1) 0) (yL d.2.1) 0 = byW sd kd d) := by
  have L12 := ok.2.2.2.2.2.2.1
  have trE : ((yL d.2.1 / 2 : Nat) : Int) - (yN d.2.1 : Int) = (yV d.2.1 : Int) - 1 := by
    unfold trB at tr
    rw [decide_eq_true_iff] at tr
    rw [yv]
    exact tr
  have we : wOf sd kd d = fcR (ctP d.2.1 d.2.2 sd kd) (cl d.2.1 d.2.2 (yL d.2.1)) (cl d.2.1 d.2.2 (yL d.2.1)).length 0 := by unfold wOf; rw [if_neg s0]
  have s0' : (sd == 0) = false := by rw [beq_eq_false_iff_ne]; exact s0
  have ue : usd V sd kd d = decide (wOf sd kd d ≠ -1) := by unfold usd; rw [tr, s0', Bool.true_and, Bool.false_or]
  rcases fc_eq ok w c trE sd kd with ⟨a, b⟩ | ⟨m, m1, m2, m3⟩
  · rw [b, ue, we, a]
    refine ⟨⟨fun _ => rfl, fun _ => rfl⟩, by omega, by omega, fun h => ?_⟩
    exact absurd h (by decide)
  · have g := cl_mem.mp (List.mem_of_getElem? (by rw [List.getD_eq_getElem?_getD, List.getElem?_eq_getElem m1]; rfl : (cl d.2.1 d.2.2 (yL d.2.1))[m]? = some ((cl d.2.1 d.2.2 (yL d.2.1)).getD m 0)))
    have wm : wOf sd kd d = (m : Int) := by rw [we, m2]
    rw [m3, ue, wm]
    refine ⟨⟨fun h => by omega, fun h => ?_⟩, by omega, by omega, fun _ => ?_⟩
    · rw [decide_eq_false_iff_not] at h
      omega
    · rw [lgs_cl]
      unfold byW
      rw [wm, wlX_w _ cl_nd m1 _ (Nat.le_refl _), List.take_length]
      refine List.filter_congr (fun x _ => ?_)
      rw [decide_eq_decide]
      omega
theorem plL_st (nu : Nat → Int) (V sd kd : Nat) {P : Int32} (h : P ≠ -1) : ∀ l, plL nu V sd kd P l = P
  | [] => rfl
  | d :: r => by
    rw [plL]
    by_cases u : usd V sd kd d = true
    · rw [if_pos u, plF_st nu _ _ h, plL_st nu V sd kd h r]
    · rw [if_neg u, plL_st nu V sd kd h r]
variable {sh : List Sh} {f : Nat} {S : St} {q : Nat}
theorem r_hasPole {p1 : Nat} {B : Bk} {n : Nat} {ek : Nat → Nat} {nu : Nat → Int} {V sd kd : Nat} (hf : 1000 ≤ f) (h : rW sh S p1 q B n ek nu V) (hn : nuB nu n) (hs : sd < 64) (hkd : kd < 8) (a2 a3 : Int32) (ha : sd = 0 ∧ a2 = -1 ∨ sd ≠ 0 ∧ a2 = I sd ∧ a3 = I kd) : ∃ S', F_X12_hasPole sh f S 94 p1 a2 a3 = some (if plL nu V sd kd (-1) (dls B n ek V (4 ^ V)) = -1 then 0 else 1, S') ∧ tF S S' ∧ (plL nu V sd kd (-1) (dls B n ek V (4 ^ V)) ≠ -1 → sI S' 94 57 = plL nu V sd kd (-1) (dls B n ek V (4 ^ V))) := by
  have l200 := h.2.2.2.2.2.2.2.2.2.1
  have hp := h.1
  have lp : ∀ (r i nf : Nat) (T : St), i + r = (dls B n ek V (4 ^ V)).length → r < nf → tF S T → ∃ S', F_X12_hasPole_L3 sh f 94 p1 a2 a3 nf T (I i) = some (if plL nu V sd kd (-1) ((dls B n ek V (4 ^ V)).drop i) = -1 then 0 else 1, S') ∧ tF S S' ∧ (plL nu V sd kd (-1) ((dls B n ek V (4 ^ V)).drop i) ≠ -1 → sI S' 94 57 = plL nu V sd kd (-1) ((dls B n ek V (4 ^ V)).drop i)) := by
    intro r
    induction r with
    | zero =>
      intro i nf T h1 h2 F
      obtain ⟨nf, rfl⟩ : ∃ e, nf = e + 1 := ⟨nf - 1, by omega⟩
      have hT := rW_fr h F
      rw [F_X12_hasPole_L3, hT.2.2.2.2.2.2.2.2.2.2.1, if_pos (by rw [I_leN (by omega) (by omega)]; omega), List.drop_eq_nil_of_le (by omega), plL]
      exact ⟨T, by rw [if_pos rfl], F, fun x => absurd rfl x⟩
    | succ r ih =>
      intro i nf T h1 h2 F
      obtain ⟨nf, rfl⟩ : ∃ e, nf = e + 1 := ⟨nf - 1, by omega⟩
      have hT := rW_fr h F
      have il : i < (dls B n ek V (4 ^ V)).length := by omega
      obtain ⟨d, hd⟩ : ∃ d, (dls B n ek V (4 ^ V))[i]? = some d := ⟨_, List.getElem?_eq_getElem il⟩
      have dr : (dls B n ek V (4 ^ V)).drop i = d :: (dls B n ek V (4 ^ V)).drop (i + 1) := by
        rw [List.drop_eq_getElem_cons il]
        rw [List.getElem?_eq_getElem il] at hd
        rw [Option.some.inj hd]
      obtain ⟨i2, ok, w, c, yb, yn, ye, yv⟩ := rW_at hT hd
      obtain ⟨U, u0, u1, u2⟩ := r_isTree (sh := sh) hf hT hd
      have FU := F.trans u2
      have nxt : ∀ W : St, tF S W → usd V sd kd d = false → ∃ S', F_X12_hasPole_L3 sh f 94 p1 a2 a3 nf W (I i + 1) = some (if plL nu V sd kd (-1) ((dls B n ek V (4 ^ V)).drop i) = -1 then 0 else 1, S') ∧ tF S S' ∧ (plL nu V sd kd (-1) ((dls B n ek V (4 ^ V)).drop i) ≠ -1 → sI S' 94 57 = plL nu V sd kd (-1) ((dls B n ek V (4 ^ V)).drop i)) := fun W FW u => by
        have nu' : ¬ usd V sd kd d = true := by rw [u]; decide
        rw [dr, plL, if_neg nu', I_suc]
        exact ih (i + 1) nf W (by omega) (by omega) FW
      have run : ∀ (W : St) (wi : Int), tF S W → shC sh W d.2.1 d.2.2 q → usd V sd kd d = true → (-1 ≤ wi ∧ wi < 12) → lgs d.2.1 d.2.2 wi (yL d.2.1) 0 = byW sd kd d → ∃ S', F_X12_hasPole_L59 sh f 94 p1 a2 a3 (F_X12_hasPole_L3 sh f 94 p1 a2 a3 nf) f W (I i) (I wi) 0 = some (if plL nu V sd kd (-1) ((dls B n ek V (4 ^ V)).drop i) = -1 then 0 else 1, S') ∧ tF S S' ∧ (plL nu V sd kd (-1) ((dls B n ek V (4 ^ V)).drop i) ≠ -1 → sI S' 94 57 = plL nu V sd kd (-1) ((dls B n ek V (4 ^ V)).drop i)) := fun W wi FW cW u hw lw => by
        have L12 := ok.2.2.2.2.2.2.1
        have hW := rW_fr h FW
        obtain ⟨X, x0, x1⟩ := r_pl59 (sh := sh) (f := f) (S := W) (q := q) (p1 := p1) (nu := nu) hf ok w c (by rw [yn]; exact hn) cW (by omega) (by omega) (by rw [yn]; exact hW.2.2.2.2.2.2.2.1) (fun e he => (hW.2.2.2.2.2.2.2.2.1 e (by omega)).2) a2 a3 (F_X12_hasPole_L3 sh f 94 p1 a2 a3 nf) hw i (yL d.2.1) 0 f W (by omega) (by omega) (fun _ _ => Sm.rfl)
        have FX : tF S X := FW.trans ((fr_of (by decide) x1).mono (by decide) (by decide))
        rw [lw] at x0
        have x0' : F_X12_hasPole_L59 sh f 94 p1 a2 a3 (F_X12_hasPole_L3 sh f 94 p1 a2 a3 nf) f W (I i) (I wi) 0 = _ := x0
        rw [x0', dr, plL, if_pos u]
        by_cases z : plF nu d.2.1 d.2.2 (-1) (byW sd kd d) = -1
        · rw [if_pos z, z]
          exact ih (i + 1) nf X (by omega) (by omega) FX
        · rw [if_neg z, plL_st nu V sd kd z]
          exact ⟨_, by rw [if_neg z], FX.uI _ (by decide), fun _ => sI_self _ _ _ _⟩
      rw [F_X12_hasPole_L3, hT.2.2.2.2.2.2.2.2.2.2.1, if_neg (by rw [I_leN (by omega) (by omega)]; omega), u0, Option.bind_some]
      by_cases t : trB V d = true
      · rw [if_pos t, if_neg (show ¬ (1 : Int32) = 0 by decide)]
        rcases ha with ⟨z, e2⟩ | ⟨z, e2, e3⟩
        · subst z
          rw [if_pos e2, if_pos e2]
          have u : usd V 0 kd d = true := by unfold usd; rw [t]; rfl
          exact run U (-1) FU u1 u (by omega) (lgs_all kd d)
        · have n2 : ¬ a2 = (-1 : Int32) := by
            rw [e2, show (-1 : Int32) = I (-1) from rfl, I_eq (by omega) (by omega)]
            omega
          obtain ⟨X, x0, x1⟩ := r_cutOf (sh := sh) (f := f) (sd := sd) (kd := kd) hf ok w c u1 hs hkd
          have FX : tF S X := FU.trans ((fr_of (by decide) x1).mono (by decide) (by decide))
          obtain ⟨g1, g2, g3, g4⟩ := lgs_one (sd := sd) (kd := kd) ok w c yv t z
          have fm : (I (fcF d.2.1 d.2.2 sd kd (yL d.2.1) 0) = (-1 : Int32)) = (fcF d.2.1 d.2.2 sd kd (yL d.2.1) 0 = -1) := by
            rw [show (-1 : Int32) = I (-1) from rfl, I_eq (by omega) (by omega)]
          rw [if_neg n2, e2, e3, x0, Option.bind_some, bnd_e, ← e2, ← e3, if_neg n2]
          simp only [fm]
          by_cases y : fcF d.2.1 d.2.2 sd kd (yL d.2.1) 0 = -1
          · rw [if_pos y, bnd_e]
            exact nxt X FX (g1.mp y)
          · have u : usd V sd kd d = true := by
              cases e : usd V sd kd d with
              | true => rfl
              | false => exact absurd (g1.mpr e) y
            rw [if_neg y]
            exact run X _ FX (shC_sm u1 x1) u ⟨g2, g3⟩ (g4 u)
      · rw [if_neg t, if_pos rfl, bnd_e]
        exact nxt U FU (by unfold usd; rw [Bool.eq_false_iff.mpr t]; rfl)
  unfold F_X12_hasPole
  have := lp (dls B n ek V (4 ^ V)).length 0 f S (by omega) (by omega) fr.rfl
  rw [List.drop_zero] at this
  exact this
end CAx
