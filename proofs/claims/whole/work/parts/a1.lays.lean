section A1a
variable {sh : List Sh} {f : Nat} {Y : Ly} {p1 p2 n2 q o : Nat}
def rfr (S S' : St) : Prop := (∀ j, j ≠ 25 → j ≠ 26 → sI S' 94 j = sI S 94 j) ∧ (∀ x, sR S' x = sR S x ∧ sJ S' x = sJ S x) ∧ ∀ x, x ≠ 94 → x ≠ 132 → x ≠ 133 → x ≠ 135 → Sm S S' x
theorem r_lays39 {S : St} (hf : 1000 ≤ f) (v : 1 ≤ yV Y ∧ yV Y ≤ 3) (up : ∀ p, p < yV Y → yU Y p < bR (yB Y)) (bo : bkOk (yB Y)) (ck : ckX9 sh q = true) (hq : q ≠ 94 ∧ ∀ x, x ≤ 10 → q + x ≠ 94 ∧ q + x ≠ 132 ∧ q + x ≠ 133 ∧ q + x ≠ 135) (hp1 : p1 ≠ 94 ∧ p1 ≠ 132 ∧ p1 ≠ 133 ∧ p1 ≠ 135) (hp2 : p2 ≠ 94 ∧ p2 ≠ 132 ∧ p2 ≠ 133 ∧ p2 ≠ 135) (ho : o + yV Y ≤ n2) (hn2 : n2 < 1000) (s1 : sI S p1 1 = I (yV Y)) (s2 : sI S p1 2 = I (yN Y)) (n6 : yN Y ≤ 6) (r5 : sR S 94 5 = some q) (kr : bkR S q (yB Y)) (ru : ∀ p, p < yV Y → sA S p2 (o + p) = I (yU Y p)) : ∀ (d p nf : Nat) (T : St), p + d = yV Y → d < nf → rLA S T Y (yS Y p) → yS Y p ≤ 12 → (∀ i, i < p → sA T 135 i = I (yS Y i)) → ∃ r S', F_X12_lays_L39 sh f 94 p1 p2 n2 (I o) nf T (I p) = some (r, S') ∧ (yL Y ≤ 12 ∧ yL Y % 2 = 0 → r = 1 ∧ rlC S' Y) ∧ (¬ (yL Y ≤ 12 ∧ yL Y % 2 = 0) → r = 0) ∧ rfr S S' := by
  intro d
  induction d with
  | zero =>
    intro p nf T h1 h2 la le st
    obtain ⟨nf, rfl⟩ : ∃ e, nf = e + 1 := ⟨nf - 1, by omega⟩
    have : p = yV Y := by omega
    subst this
    have fr := la.2.2.2.2 p1 hp1.1 hp1.2.1 hp1.2.2.1 hp1.2.2.2
    have eL : yS Y (yV Y) = yL Y := rfl
    rw [eL] at la le
    have q2 : (I (yL Y : Int) - I (yL Y : Int) / 2 * 2 = 0) = (yL Y % 2 = 0) := by
      rw [show (2 : Int32) = I 2 from rfl, show (0 : Int32) = I 0 from rfl, I_div (by omega) (by omega), I_mul, I_sub, I_eq (by omega) (by omega)]
      exact propext ⟨fun h => by omega, fun h => by omega⟩
    have nv : I (yN Y : Int) + I (yV Y : Int) = I ((yN Y + yV Y : Nat) : Int) := by rw [I_add]; rfl
    rw [F_X12_lays_L39, fr.I, s1, if_pos (by rw [I_leN (by omega) (by omega)]; omega), fr.I, s2, nv]
    simp only [bnd]
    rw [sI_ne _ _ _ (by omega), la.2.1]
    simp only [q2]
    have F : rfr S (uI T 94 26 (I ((yN Y + yV Y : Nat) : Int))) := ⟨fun j a c => by rw [sI_ne _ _ _ c]; exact la.2.2.1 j a c, fun x => la.2.2.2.1 x, fun x a b c e => (la.2.2.2.2 x a b c e).trans (by repeat' (first | exact Sm.rfl | (refine Sm.uI ?_ (by omega)) | (refine Sm.uA ?_ (by omega)) | (refine Sm.uJ ?_ (by omega)) | (refine Sm.uL ?_ (by omega)) | (refine Sm.uR ?_ (by omega))))⟩
    by_cases ev : yL Y % 2 = 0
    · rw [if_pos ev]
      refine ⟨1, _, rfl, fun _ => ⟨rfl, ?_⟩, fun h => absurd ⟨le, ev⟩ h, F⟩
      exact ⟨by rw [sI_ne _ _ _ (by omega)]; exact la.2.1, sI_self _ _ _ _, fun i hi => la.1 i hi, fun p hp => st p hp⟩
    · rw [if_neg ev]
      exact ⟨0, _, rfl, fun h => absurd h.2 ev, fun _ => rfl, F⟩
  | succ d ih =>
    intro p nf T h1 h2 la le st
    obtain ⟨nf, rfl⟩ : ∃ e, nf = e + 1 := ⟨nf - 1, by omega⟩
    have hp : p < yV Y := by omega
    have fr := la.2.2.2.2 p1 hp1.1 hp1.2.1 hp1.2.2.1 hp1.2.2.2
    have r4 := bo.2.1
    have uu := up p hp
    have z4 := (bo.2.2.2 _ uu).2.1
    have eZ : yZ Y p = bZ (yB Y) (yU Y p) := rfl
    have ucl : (I (yU Y p : Int)).toNatClampNeg = yU Y p := I_clN (by omega)
    have pcl : (I (p : Int)).toNatClampNeg = p := I_clN (by omega)
    have op : I (o : Int) + I (p : Int) = I ((o + p : Nat) : Int) := by rw [I_add]; rfl
    have ocl : (I ((o + p : Nat) : Int)).toNatClampNeg = o + p := I_clN (by omega)
    have ob : ¬ (I ((o + p : Nat) : Int) < 0 ∨ n2 ≤ o + p) := I_bnd (by omega) hn2
    have T5 : sR T 94 5 = some q := by rw [(la.2.2.2.1 94).1]; exact r5
    have s6 : sA T (q + 6) (yU Y p) = I (yZ Y p) := ((la.2.2.2.2 (q + 6) (hq.2 6 (by omega)).1 (hq.2 6 (by omega)).2.1 (hq.2 6 (by omega)).2.2.1 (hq.2 6 (by omega)).2.2.2).A _).trans (kr.2.2.2 _ uu).1
    have sr : sA T p2 (o + p) = I (yU Y p) := ((la.2.2.2.2 p2 hp2.1 hp2.2.1 hp2.2.2.1 hp2.2.2.2).A _).trans (ru p hp)
    have q3 : (I ((yS Y p : Nat) : Int) + I (yZ Y p : Int) ≤ 12) = (yS Y p + yZ Y p ≤ 12) := by
      rw [I_add, show (12 : Int32) = I 12 from rfl, I_le (by omega) (by omega)]
      exact propext ⟨fun h => by omega, fun h => by omega⟩
    rw [F_X12_lays_L39, fr.I, s1, if_neg (by rw [I_leN (by omega) (by omega)]; omega), op, ocl, if_neg ob, sr]
    simp only [bnd]
    rw [T5, Option.bind_some, if_pos ck, ucl, if_neg (I_bnd (show yU Y p < 4 by omega) (by omega)), la.2.1, s6]
    simp only [q3]
    by_cases c : yS Y p + yZ Y p ≤ 12
    · rw [if_pos c, pcl, if_neg (I_bnd (show p < 3 by omega) (by omega))]
      simp only [Nat.reduceAdd]
      generalize hU : uA T 135 p (I ((yS Y p : Nat) : Int)) = U
      have u135 : ∀ i, sA U 135 i = up1 (sA T 135) p (I ((yS Y p : Nat) : Int)) i := by
        intro i
        rw [← hU, sA_uA, if_pos rfl]
      have uf : ∀ x, x ≠ 135 → Sm T U x := by
        intro x hx
        rw [← hU]
        exact (by repeat' (first | exact Sm.rfl | (refine Sm.uI ?_ (by omega)) | (refine Sm.uA ?_ (by omega)) | (refine Sm.uJ ?_ (by omega)) | (refine Sm.uL ?_ (by omega)) | (refine Sm.uR ?_ (by omega))))
      have laU : rLA S U Y (yS Y p + 0) := ⟨fun i hi => ⟨((uf 132 (by omega)).A i).trans (la.1 i hi).1, ((uf 133 (by omega)).A i).trans (la.1 i hi).2⟩, ((uf 94 (by omega)).I 25).trans la.2.1, fun j a c => ((uf 94 (by omega)).I j).trans (la.2.2.1 j a c), fun x => by rw [← hU]; exact la.2.2.2.1 x, fun x a b c e => (la.2.2.2.2 x a b c e).trans (uf x e)⟩
      obtain ⟨W, w0, w1, w2⟩ := r_lays92 (sh := sh) (f := f) (p2 := p2) (n2 := n2) (p3 := I o) v hp uu bo c ck hq hp1 s2 n6 r5 kr (F_X12_lays_L39 sh f 94 p1 p2 n2 (I o) nf) (yZ Y p) 0 f U (by omega) (by omega) laU
      have w2' : F_X12_lays_L92 sh f 94 p1 p2 n2 (I o) (F_X12_lays_L39 sh f 94 p1 p2 n2 (I o) nf) f U (I p) (I (yU Y p)) 0 = F_X12_lays_L39 sh f 94 p1 p2 n2 (I o) nf W (I ((p + 1 : Nat) : Int)) := w2
      rw [w2']
      refine ih (p + 1) nf W (by omega) (by omega) w0 (by show yS Y p + yZ Y p ≤ 12; exact c) (fun i hi => ?_)
      rw [w1, u135, up1_if]
      by_cases e : i = p
      · rw [if_pos e, e]
      · rw [if_neg e]
        exact st i (by omega)
    · rw [if_neg c]
      have big : ¬ yL Y ≤ 12 := by
        have : yS Y (p + 1) ≤ yL Y := yS_mono (by omega)
        have e : yS Y (p + 1) = yS Y p + yZ Y p := rfl
        omega
      exact ⟨0, T, rfl, fun h => absurd h.1 big, fun _ => rfl, la.2.2.1, la.2.2.2.1, la.2.2.2.2⟩
end A1a
