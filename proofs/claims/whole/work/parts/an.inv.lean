/-! WHAT HOLDS from call to call, the list included. -/
/-- all rows that hang together, their signs added -/
noncomputable def wkN (Y : Ly) : Int := ((yHg Y).map (sgR Y)).sum
def gpD (S : St) (g i c : Nat) (Y : Ly) : Prop := sA S (g + 8) i = I c ∧ sA S (g + 9) i = I (yL Y) ∧ sA S (g + 10) i = I ((yL Y / 2 : Nat) - (yN Y : Int)) ∧ sA S (g + 11) i = I (yNa Y) ∧ sA S (g + 13) i = I (wrN Y (yV Y)) ∧ sA S (g + 14) i = I (pwN Y (yV Y)) ∧ (sA S (g + 16) i = 0 ∨ sA S (g + 16) i = 1 ∧ sA S (g + 15) i = I (wkN Y))
def GD (S : St) (g : Nat) (B : Bk) (n : Nat) (ek : Nat → Nat) (V : Nat) : Prop := sI S g 16 = I V ∧ sI S g 18 = I (gls B n ek V (4 ^ V)).length ∧ ∀ (i cc : Nat), (gls B n ek V (4 ^ V))[i]? = some cc → gpD S g i cc (yC B n ek V cc) ∧ (sA S (g + 12) i = I 1 ∨ ∃ ρ, yNe (yC B n ek V cc) ρ ∧ sA S (g + 12) i = I (hvN (yC B n ek V cc) ρ (yL (yC B n ek V cc))))
abbrev xB (X : NS) : Bk := X.2.1
abbrev xN (X : NS) : Nat := X.2.2.1
abbrev xE (X : NS) : Nat → Nat := X.2.2.2.1
noncomputable abbrev xD (X : NS) (V : Nat) : List Dw := dls (xB X) (xN X) (xE X) V (4 ^ V)
/-- the list of both, of the order V -/
def liV (S : St) (g : Nat) (X : NS) (V : Nat) : Prop := (1 ≤ V ∧ V ≤ 3) ∧ xN X ≠ 0 ∧ (xD X V).length ≤ 200 ∧ GA S g (xD X V) ∧ GD S g (xB X) (xN X) (xE X) V ∧ rLs S 111 (xD X V) ∧ sI S 111 1 = I V ∧ sI S 111 2 = I (xN X) ∧ ∀ i, i < xN X → sA S 112 i = I (xE X i)
def inv (sh : List Sh) (S : St) (p : PC) (q : Option Nat) (w : Nat) (X : NS) : Prop := inv0 sh S p q w X ∧ jnC S (fun _ _ => 0) ∧ (sI S 0 14 = 1 → ∃ V, liV S p.2.2.1 X V)
section ANa
variable {sh sh' : List Sh} {S S' : St} {p p' : PC} {q q' : Option Nat} {w w' : Nat} {X X' : NS} {g V : Nat}
theorem GD_sm (h : GD S g (xB X) (xN X) (xE X) V) (k : ∀ x, g ≤ x → x ≤ g + 16 → Sm S S' x) : GD S' g (xB X) (xN X) (xE X) V := by
  obtain ⟨h1, h2, h3⟩ := h
  have g0 := k g (by omega) (by omega)
  refine ⟨(g0.I 16).trans h1, (g0.I 18).trans h2, fun i cc e => ?_⟩
  obtain ⟨⟨a1, a2, a3, a4, a5, a6, a7⟩, a8⟩ := h3 i cc e
  have kk : ∀ x, x ≤ 16 → sA S' (g + x) i = sA S (g + x) i := fun x hx => (k (g + x) (by omega) (by omega)).A i
  exact ⟨⟨(kk 8 (by omega)).trans a1, (kk 9 (by omega)).trans a2, (kk 10 (by omega)).trans a3, (kk 11 (by omega)).trans a4, (kk 13 (by omega)).trans a5, (kk 14 (by omega)).trans a6, by rw [kk 16 (by omega), kk 15 (by omega)]; exact a7⟩, by rw [kk 12 (by omega)]; exact a8⟩
theorem liV_sm (h : liV S g X V) (e1 : X'.2.1 = X.2.1) (e2 : X'.2.2.1 = X.2.2.1) (e3 : X'.2.2.2.1 = X.2.2.2.1) (k : ∀ x, g ≤ x → x ≤ g + 16 → Sm S S' x) (k2 : ∀ x, 111 ≤ x → x ≤ 117 → Sm S S' x) : liV S' g X' V := by
  obtain ⟨h1, h2, h3, h4, h5, h6, h7, h8, h9⟩ := h
  have D : xD X' V = xD X V := by unfold xD xB xN xE; rw [e1, e2, e3]
  refine ⟨h1, by unfold xN; rw [e2]; exact h2, by rw [D]; exact h3, by rw [D]; exact GA_sm h4 (fun x a b => k x a (by omega)), ?_, by rw [D]; exact rLs_cg (Or.inl rfl) h6 (fun x hx => k2 x (by omega) (by omega)), ((k2 111 (by omega) (by omega)).I 1).trans h7, ?_, ?_⟩
  · have := GD_sm h5 k
    unfold xB xN xE at *
    rw [e1, e2, e3]
    exact this
  · unfold xN at *
    rw [e2]
    exact ((k2 111 (by omega) (by omega)).I 2).trans h8
  · unfold xN xE at *
    rw [e2, e3]
    exact fun i hi => ((k2 112 (by omega) (by omega)).A i).trans (h9 i hi)
theorem jnC_sm {h : Nat → Nat → Nat} (j : jnC S h) (k : Sm S S' 22) : jnC S' h := fun a c ha hc => by rw [k.A]; exact j a c ha hc
theorem pg (h : inv0 sh S p q w X) : p.2.2.1 = 23 ∨ p.2.2.1 = 71 := by have := h.2.2.1.2.1; omega
/-- calls that leave the list as it is -/
theorem inv_keep (h : inv sh S p q w X) (h' : inv0 sh' S' p' q' w' X') (hp : p'.2.2.1 = p.2.2.1) (e1 : X'.2.1 = X.2.1) (e2 : X'.2.2.1 = X.2.2.1) (e3 : X'.2.2.2.1 = X.2.2.2.1) (e4 : sI S' 0 14 = sI S 0 14) (k : ∀ x, 22 ≤ x ∧ x ≤ 39 ∨ 71 ≤ x ∧ x ≤ 87 ∨ 111 ≤ x ∧ x ≤ 117 → Sm S S' x) : inv sh' S' p' q' w' X' := by
  obtain ⟨h1, h2, h3⟩ := h
  refine ⟨h', jnC_sm h2 (k 22 (by omega)), fun l => ?_⟩
  obtain ⟨V, v⟩ := h3 (e4 ▸ l)
  have := pg h1
  rw [hp]
  exact ⟨V, liV_sm v e1 e2 e3 (fun x a b => k x (by omega)) (fun x a b => k x (by omega))⟩
/-- calls after which there is no list -/
theorem inv_none (h : inv sh S p q w X) (h' : inv0 sh' S' p' q' w' X') (e : sI S' 0 14 = 0) (k : Sm S S' 22) : inv sh' S' p' q' w' X' := ⟨h', jnC_sm h.2.1 k, fun l => by rw [e] at l; exact absurd l (by decide)⟩
/-- what a call may change, but for the cells that inv0 speaks of -/
theorem inv0_chg (h : inv0 sh S p q w X) (hp : p'.1 = p.1 ∧ p'.2.1 = p.2.1) (pt : ptC S' p') (pd : ptD p') (an : anR S' p'.2.2.2.2.1) (li : liF S') (x4 : sI S' 0 16 ≠ 4) (r1 : sI S' 94 1 = sI S' 0 16) (r2 : sI S' 94 2 = -1) (r4 : sI S' 94 4 = (if sI S' 0 16 = 5 then sI S' 0 17 else -1)) (f : ∀ j, j = 3 ∨ j = 9 ∨ j = 17 → sI S' 94 j = sI S 94 j) (R : ∀ j, sR S' 94 j = sR S 94 j) (k : ∀ x, 1 ≤ x ∧ x ≤ 12 ∨ 44 ≤ x ∧ x ≤ 46 ∨ x = 59 ∨ 61 ≤ x ∧ x ≤ 70 ∨ 95 ≤ x ∧ x ≤ 110 ∨ 159 ≤ x → Sm S S' x) : inv0 sh S' p' q w X := by
  obtain ⟨h1, h2, ⟨d1, d2, d3⟩, ⟨p1, p2, p3, p4, p5⟩, ⟨t1, t2, t3, t4, t5⟩, ⟨s1, s2, s3, s4⟩, ⟨h7, h8, h9, h10⟩, ⟨e1, e2, e3, e4, e5⟩, h12, h13, _⟩ := h
  have k1 := k 1 (by omega)
  refine ⟨h1, pt, pd, ⟨(R 5).trans p1, (R 6).trans p2, p3, p4, p5⟩, ⟨t1, (k1.I 1).trans t2, (f 9 (by omega)).trans t3, ?_, fun i => by rw [(k 2 (by omega)).A]; exact t5 i⟩, ⟨?_, r1, ?_, r4⟩, ⟨h7, ?_, h9, fun z hz => ⟨(h10 z hz).1, bkR_sm (h10 z hz).2 (fun x a b => k x ?_)⟩⟩, ⟨e1, ((k 44 (by omega)).I 2).trans e2, (f 17 (by omega)).trans e3, e4, fun i hi => ?_⟩, fun i hi => ?_, an, li⟩
  · rw [(k 2 (by omega)).1, (k 107 (by omega)).1]
    exact t4
  · rw [f 3 (by omega), k1.I]
    exact s1
  · rw [r2, if_neg x4]
  · rw [hp.1]
    exact bkC_sm h8 (fun x a b => k x (by omega))
  · have := (p5 z hz).2.1
    omega
  · obtain ⟨a1, a2, a3, a4, a5, a6, a7⟩ := e5 i hi
    exact ⟨a1, a2, a3, ((k 45 (by omega)).A i).trans a4, ((k 108 (by omega)).A i).trans a5, ((k 46 (by omega)).A i).trans a6, ((k 109 (by omega)).A i).trans a7⟩
  · obtain ⟨a1, a2, a3, a4⟩ := h12 i hi
    exact ⟨a1, a2, ((k 59 (by omega)).A i).trans a3, ((k 110 (by omega)).A i).trans a4⟩
theorem anR_sm {a : Nat} (h : anR S a) (e : sI S' 0 15 = sI S 0 15) (j : sJ S' 94 = sJ S 94) (k1 : Sm S S' a) (k2 : Sm S S' (a + 1)) (k3 : Sm S S' 156) : anR S' a := by
  rcases h with ⟨h1, h2, h3, h4⟩ | ⟨h1, h2, h3, h4⟩
  · exact Or.inl ⟨e.trans h1, by rw [j]; exact h2, by rw [j]; exact h3, fun i hi => (k3.A i).trans (h4 i hi)⟩
  · exact Or.inr ⟨e.trans h1, by rw [j, k1.J]; exact h2, by rw [j, k1.J]; exact h3, fun i hi => by rw [k2.L, k3.A]; exact h4 i hi⟩
end ANa
