/-! THE BOOK as numbers, and what holds between the two objects from call to call (the lists of drawings aside). -/
abbrev Bk : Type := (Nat × Nat) × (Nat → Nat) × (Nat → Nat) × (Nat → Int) × (Nat → Nat) × (Nat → Nat) × (Nat → Int) × (Nat → Nat) × (Nat → Nat → Nat)
def bK (B : Bk) : Nat := B.1.1
def bR (B : Bk) : Nat := B.1.2
def bF (B : Bk) : Nat → Nat := B.2.1
def bH (B : Bk) : Nat → Nat := B.2.2.1
def bM (B : Bk) : Nat → Int := B.2.2.2.1
def bS (B : Bk) : Nat → Nat := B.2.2.2.2.1
def bZ (B : Bk) : Nat → Nat := B.2.2.2.2.2.1
def bW (B : Bk) : Nat → Int := B.2.2.2.2.2.2.1
def bL (B : Bk) : Nat → Nat := B.2.2.2.2.2.2.2.1
def bG (B : Bk) : Nat → Nat → Nat := B.2.2.2.2.2.2.2.2
/-- what is true of the kinds told -/
def bkKinds (B : Bk) : Prop := bK B ≤ 8 ∧ ∀ i, i < bK B → bF B i < bK B ∧ bF B (bF B i) = i ∧ 1 ≤ bH B i ∧ bH B i ≤ 99 ∧ bH B (bF B i) = bH B i ∧ -9 ≤ bM B i ∧ bM B i ≤ 9 ∧ bM B (bF B i) = - bM B i ∧ bS B i ≤ 2 ∧ bS B (bF B i) = bS B i ∧ (bS B i = 2 → bF B i ≠ i)
def bkRule (B : Bk) (r : Nat) : Prop := 3 ≤ bZ B r ∧ bZ B r ≤ 4 ∧ -99 ≤ bW B r ∧ bW B r ≤ 99 ∧ bL B r < 3 ∧ ∀ k, k < bZ B r → bG B r k < bK B ∧ ∀ j, j < k → bS B (bG B r k) = 2 → bG B r j ≠ bG B r k
def bkOk (B : Bk) : Prop := bkKinds B ∧ bR B ≤ 4 ∧ (bK B = 0 → bR B = 0) ∧ ∀ r, r < bR B → bkRule B r
/-- the developers' book at cell b tells B -/
def bkC (S : St) (b : Nat) (B : Bk) : Prop := sI S b 9 = I (bK B) ∧ sI S b 10 = I (bR B) ∧ (∀ i, i < bK B → sA S (b + 2) i = I (bF B i) ∧ sA S (b + 3) i = I (bH B i) ∧ sA S (b + 4) i = I (bM B i) ∧ sA S (b + 5) i = I (bS B i)) ∧ ∀ r, r < bR B → sA S (b + 6) r = I (bZ B r) ∧ sA S (b + 7) r = I (bW B r) ∧ sA S (b + 8) r = I (bL B r) ∧ ∀ k, k < bZ B r → sA S (b + 9) (4 * r + k) = I (bG B r k)
/-- the reference's book at cell q tells B -/
def bkR (S : St) (q : Nat) (B : Bk) : Prop := sI S q 0 = I (bK B) ∧ sI S q 1 = I (bR B) ∧ (∀ i, i < bK B → sA S (q + 2) i = I (bF B i) ∧ sA S (q + 3) i = I (bH B i) ∧ sA S (q + 4) i = I (bM B i) ∧ sA S (q + 5) i = I (bS B i) ∧ sA S (q + 10) i = (if bF B i < i then I 1 else I 0)) ∧ ∀ r, r < bR B → sA S (q + 6) r = I (bZ B r) ∧ sA S (q + 8) r = I (bW B r) ∧ sA S (q + 9) r = I (bL B r) ∧ ∀ k, k < bZ B r → sA S (q + 7) (4 * r + k) = I (bG B r k)
theorem bkC_sm {S S' : St} {b : Nat} {B : Bk} (h : bkC S b B) (g : ∀ k, b ≤ k → k ≤ b + 9 → Sm S S' k) : bkC S' b B := by
  obtain ⟨h1, h2, h3, h4⟩ := h
  refine ⟨((g b (by omega) (by omega)).I 9).trans h1, ((g b (by omega) (by omega)).I 10).trans h2, fun i hi => ?_, fun r hr => ?_⟩
  · obtain ⟨a1, a2, a3, a4⟩ := h3 i hi
    exact ⟨((g (b + 2) (by omega) (by omega)).A i).trans a1, ((g (b + 3) (by omega) (by omega)).A i).trans a2, ((g (b + 4) (by omega) (by omega)).A i).trans a3, ((g (b + 5) (by omega) (by omega)).A i).trans a4⟩
  · obtain ⟨a1, a2, a3, a4⟩ := h4 r hr
    exact ⟨((g (b + 6) (by omega) (by omega)).A r).trans a1, ((g (b + 7) (by omega) (by omega)).A r).trans a2, ((g (b + 8) (by omega) (by omega)).A r).trans a3, fun k hk => ((g (b + 9) (by omega) (by omega)).A _).trans (a4 k hk)⟩
theorem bkR_sm {S S' : St} {q : Nat} {B : Bk} (h : bkR S q B) (g : ∀ k, q ≤ k → k ≤ q + 10 → Sm S S' k) : bkR S' q B := by
  obtain ⟨h1, h2, h3, h4⟩ := h
  refine ⟨((g q (by omega) (by omega)).I 0).trans h1, ((g q (by omega) (by omega)).I 1).trans h2, fun i hi => ?_, fun r hr => ?_⟩
  · obtain ⟨a1, a2, a3, a4, a5⟩ := h3 i hi
    exact ⟨((g (q + 2) (by omega) (by omega)).A i).trans a1, ((g (q + 3) (by omega) (by omega)).A i).trans a2, ((g (q + 4) (by omega) (by omega)).A i).trans a3, ((g (q + 5) (by omega) (by omega)).A i).trans a4, ((g (q + 10) (by omega) (by omega)).A i).trans a5⟩
  · obtain ⟨a1, a2, a3, a4⟩ := h4 r hr
    exact ⟨((g (q + 6) (by omega) (by omega)).A r).trans a1, ((g (q + 8) (by omega) (by omega)).A r).trans a2, ((g (q + 9) (by omega) (by omega)).A r).trans a3, fun k hk => ((g (q + 7) (by omega) (by omega)).A _).trans (a4 k hk)⟩
/-- where the exchanged objects lie: book, draft, list, gallery, answer, trial of the developers' object -/
abbrev PC : Type := Nat × Nat × Nat × Nat × Nat × Nat
def ptC (S : St) (p : PC) : Prop := sR S 0 10 = some p.1 ∧ sR S 1 10 = some p.2.1 ∧ sR S 0 11 = some p.2.2.1 ∧ sR S 13 2 = some p.2.2.2.1 ∧ sR S 0 12 = some p.2.2.2.2.1 ∧ sR S 0 13 = some p.2.2.2.2.2
def ptD (p : PC) : Prop := (p.1 = 3 ∧ p.2.1 = 61 ∨ p.1 = 61 ∧ p.2.1 = 3) ∧ (p.2.2.1 = 71 ∧ p.2.2.2.1 = 23 ∨ p.2.2.1 = 23 ∧ p.2.2.2.1 = 71) ∧ (p.2.2.2.2.1 = 88 ∧ p.2.2.2.2.2 = 91 ∨ p.2.2.2.2.1 = 91 ∧ p.2.2.2.2.2 = 88)
/-- the reference's book and the next one -/
def ptR (sh : List Sh) (S : St) (q : Option Nat) (w : Nat) : Prop := sR S 94 5 = q ∧ sR S 94 6 = some w ∧ ckX9 sh w = true ∧ (w = 95 ∨ 159 ≤ w) ∧ ∀ z, q = some z → ckX9 sh z = true ∧ (z = 95 ∨ 159 ≤ z) ∧ (z + 11 ≤ w ∨ w + 11 ≤ z)
def shOk (sh : List Sh) : Prop := ∃ tl, sh = SH ++ tl
theorem ckSH : ckX0 SH 3 = true ∧ ckX0 SH 61 = true ∧ ckX3 SH 23 = true ∧ ckX3 SH 71 = true ∧ ckX7 SH 88 = true ∧ ckX7 SH 91 = true ∧ ckX9 SH 95 = true := by decide +kernel
theorem sh0 {sh : List Sh} (h : shOk sh) {b : Nat} (hb : b = 3 ∨ b = 61) : ckX0 sh b = true := by
  obtain ⟨tl, rfl⟩ := h
  rcases hb with rfl | rfl
  · exact ck_app tl ckSH.1
  · exact ck_app tl ckSH.2.1
theorem sh3 {sh : List Sh} (h : shOk sh) {b : Nat} (hb : b = 23 ∨ b = 71) : ckX3 sh b = true := by
  obtain ⟨tl, rfl⟩ := h
  rcases hb with rfl | rfl
  · exact ck_app tl ckSH.2.2.1
  · exact ck_app tl ckSH.2.2.2.1
theorem sh7 {sh : List Sh} (h : shOk sh) {b : Nat} (hb : b = 88 ∨ b = 91) : ckX7 sh b = true := by
  obtain ⟨tl, rfl⟩ := h
  rcases hb with rfl | rfl
  · exact ck_app tl ckSH.2.2.2.2.1
  · exact ck_app tl ckSH.2.2.2.2.2.1
/-- the tapes; the refusals; the ends; the letters; the answers -/
def tpR (S : St) (n : Nat) : Prop := n ≤ 400 ∧ sI S 1 1 = I n ∧ sI S 94 9 = I n ∧ sA S 2 = sA S 107 ∧ ∀ i, -128 ≤ (sA S 2 i).toInt ∧ (sA S 2 i).toInt ≤ 127
def rfR (S : St) : Prop := sI S 94 3 = sI S 1 8 ∧ sI S 94 1 = sI S 0 16 ∧ sI S 94 2 = (if sI S 0 16 = 4 then sI S 1 9 else -1) ∧ sI S 94 4 = (if sI S 0 16 = 5 then sI S 0 17 else -1)
def enR (S : St) (B : Bk) (n : Nat) (ek : Nat → Nat) (en : Nat → Int) : Prop := n ≤ 6 ∧ sI S 44 2 = I n ∧ sI S 94 17 = I n ∧ (n ≠ 0 → 2 ≤ n ∧ bK B ≠ 0) ∧ ∀ i, i < n → ek i < bK B ∧ -999 ≤ en i ∧ en i ≤ 999 ∧ sA S 45 i = I (ek i) ∧ sA S 108 i = I (ek i) ∧ sA S 46 i = I (en i) ∧ sA S 109 i = I (en i)
def ltR (S : St) (le : Nat → Int) : Prop := ∀ i, i < 3 → -99 ≤ le i ∧ le i ≤ 99 ∧ sA S 59 i = I (le i) ∧ sA S 110 i = I (le i)
def anR (S : St) (a : Nat) : Prop := (sI S 0 15 = 0 ∧ sJ S 94 53 = -9223372036854775808 ∧ sJ S 94 54 = -9223372036854775808 ∧ ∀ i, i < 4 → sA S 156 i = -1) ∨ (sI S 0 15 = 1 ∧ sJ S a 4 = sJ S 94 53 ∧ sJ S a 5 = sJ S 94 54 ∧ ∀ i, i < 4 → (sL S (a + 1) i).toInt32 = sA S 156 i)
def boR (S : St) (b : Nat) (q : Option Nat) (B : Bk) : Prop := bkOk B ∧ bkC S b B ∧ (q = none → bK B = 0) ∧ ∀ z, q = some z → bK B ≠ 0 ∧ bkR S z B
def liF (S : St) : Prop := sI S 94 18 = sI S 0 14 ∧ (sI S 0 14 = 0 ∨ sI S 0 14 = 1)
/-- the state as numbers: tape's length; book; ends: how many, kinds, numbers; letters -/
abbrev NS : Type := Nat × Bk × Nat × (Nat → Nat) × (Nat → Int) × (Nat → Int)
def inv0 (sh : List Sh) (S : St) (p : PC) (q : Option Nat) (w : Nat) (X : NS) : Prop := shOk sh ∧ ptC S p ∧ ptD p ∧ ptR sh S q w ∧ tpR S X.1 ∧ rfR S ∧ boR S p.1 q X.2.1 ∧ enR S X.2.1 X.2.2.1 X.2.2.2.1 X.2.2.2.2.1 ∧ ltR S X.2.2.2.2.2 ∧ anR S p.2.2.2.2.1 ∧ liF S
