/-! READING A TEXT as a function: the draft D (names, book), the token k; a fault is its kind and its place. -/
abbrev Dr : Type := (Nat → Nat) × Bk
abbrev PR (α : Type) : Type := (Nat × Nat) ⊕ α
def bindP {α β : Type} (x : PR α) (g : α → PR β) : PR β := match x with
  | .inl a => .inl a
  | .inr b => g b
theorem bindP_r {α β : Type} {x : PR α} {g : α → PR β} {b : β} (h : bindP x g = .inr b) : ∃ a, x = .inr a ∧ g a = .inr b := by
  cases x with
  | inl a => cases h
  | inr a => exact ⟨a, rfl, h⟩
theorem bindP_l {α β : Type} {x : PR α} {g : α → PR β} {a : Nat × Nat} (h : x = .inl a) : bindP x g = .inl a := by rw [h]; rfl
theorem bindP_i {α β : Type} {x : PR α} {g : α → PR β} {a : α} (h : x = .inr a) : bindP x g = g a := by rw [h]; rfl
def tS_ (k : TK) : Nat := k.2.1
def tW (k : TK) : Nat := k.2.2.2.1
def tV (k : TK) : Nat := k.2.2.2.2
def adv (T : Nat → Int) (e : Nat) (k : TK) : TK := tok T e k.2.2.1
def isNm (k : TK) : Prop := k.1 = 1 ∧ tW k ≠ 16110 ∧ tW k ≠ 525618 ∧ tW k ≠ 263558 ∧ tW k ≠ 431284 ∧ tW k ≠ 89
def nmB (k : TK) : Bool := decide (k.1 = 1) && (!decide (tW k = 16110) && (!decide (tW k = 525618) && (!decide (tW k = 263558) && (!decide (tW k = 431284) && !decide (tW k = 89)))))
/-- the first of the names from i on that is w -/
def findN (nm : Nat → Nat) (w : Nat) : Nat → Nat → Option Nat
  | 0, _ => none
  | r + 1, i => if nm i = w then some i else findN nm w r (i + 1)
def addK (D : Dr) (w : Nat) : Dr := (up1 D.1 (bK D.2) w, ((bK D.2 + 1, bR D.2), D.2.2))
def dKind (B : Bk) (i foe sort heavy : Nat) (mark : Int) : Bk := (B.1, up1 (bF B) i foe, up1 (bH B) i heavy, up1 (bM B) i mark, up1 (bS B) i sort, B.2.2.2.2.2)
def dLeg (B : Bk) (r n k : Nat) : Bk := (B.1, bF B, bH B, bM B, bS B, bZ B, bW B, bL B, up1 (bG B) r (up1 (bG B r) n k))
def dRule (B : Bk) (n : Nat) (wo : Int) (le : Nat) : Bk := ((bK B, bR B + 1), bF B, bH B, bM B, bS B, up1 (bZ B) (bR B) n, up1 (bW B) (bR B) wo, up1 (bL B) (bR B) le, bG B)
def pNew (T : Nat → Int) (e : Nat) (D : Dr) (k : TK) : PR (Dr × TK) :=
  if nmB k = true then (if (findN D.1 (tW k) (bK D.2) 0).isSome then .inl (3, tS_ k) else if 8 ≤ bK D.2 then .inl (6, tS_ k) else .inr (addK D (tW k), adv T e k)) else .inl (1, tS_ k)
def pHeavy (k : TK) : PR Nat := if k.1 = 2 then (if tV k < 1 ∨ 99 < tV k then .inl (4, tS_ k) else .inr (tV k)) else .inl (1, tS_ k)
def pIntA (T : Nat → Int) (e most : Nat) (zok : Bool) (from_ : Nat) (neg : Bool) (k : TK) : PR (Int × TK) :=
  if k.1 = 2 then (if most < tV k ∨ (tV k = 0 ∧ zok = false) then .inl (4, from_) else .inr (if neg = true then -(tV k : Int) else (tV k : Int), adv T e k)) else .inl (1, tS_ k)
def pInt (T : Nat → Int) (e most : Nat) (zok : Bool) (k : TK) : PR (Int × TK) :=
  if k.1 = 4 then pIntA T e most zok (tS_ k) true (adv T e k) else pIntA T e most zok (tS_ k) false k
def pOwn (T : Nat → Int) (e : Nat) (D : Dr) (k : TK) : PR (Dr × TK) :=
  bindP (pNew T e D (adv T e k)) fun a => bindP (pHeavy a.2) fun h => .inr ((a.1.1, dKind a.1.2 (bK a.1.2 - 1) (bK a.1.2 - 1) 0 h 0), adv T e a.2)
def pTwo (T : Nat → Int) (e : Nat) (what : Nat) (D : Dr) (k : TK) : PR (Dr × TK) :=
  bindP (pNew T e D (adv T e k)) fun a => bindP (pNew T e a.1 a.2) fun b => bindP (pHeavy b.2) fun h => bindP (pInt T e 9 true (adv T e b.2)) fun m => .inr ((b.1.1, dKind (dKind b.1.2 (bK b.1.2 - 2) (bK b.1.2 - 1) what h m.1) (bK b.1.2 - 1) (bK b.1.2 - 2) what h (-m.1)), m.2)
def pLegs (T : Nat → Int) (e : Nat) : Nat → Dr → Nat → TK → PR (Dr × Nat × TK)
  | 0, _, _, k => .inl (6, tS_ k)
  | r + 1, D, n, k => if 3 ≤ n ∧ k.1 = 1 ∧ tW k = 89 then .inr (D, n, k) else if nmB k = true then (match findN D.1 (tW k) (bK D.2) 0 with
    | none => .inl (2, tS_ k)
    | some i => if 4 ≤ n then .inl (6, tS_ k) else pLegs T e r (D.1, dLeg D.2 (bR D.2) n i) (n + 1) (adv T e k)) else .inl (1, tS_ k)
def sumM (B : Bk) (g : Nat → Nat) : Nat → Int
  | 0 => 0
  | n + 1 => sumM B g n + bM B (g n)
def sumH (B : Bk) (g : Nat → Nat) : Nat → Nat
  | 0 => 0
  | n + 1 => sumH B g n + (if bS B (g n) = 2 then 1 else 0)
def halfTw (B : Bk) (g : Nat → Nat) (n : Nat) : Bool := (List.range n).any fun i => decide (bS B (g i) = 2) && (List.range i).any fun j => decide (g j = g i)
def evenR (B : Bk) (g : Nat → Nat) (n : Nat) : Bool := decide (sumM B g n = 0) && (decide (sumH B g n % 2 = 0) && !halfTw B g n)
def pMeet (T : Nat → Int) (e : Nat) (D : Dr) (k : TK) : PR (Dr × TK) :=
  if 4 ≤ bR D.2 then .inl (6, tS_ k) else bindP (pLegs T e 5 D 0 (adv T e k)) fun a => bindP (pInt T e 99 false (adv T e a.2.2)) fun m =>
    if m.2.1 = 1 then (if tW m.2 < 1 ∨ 3 < tW m.2 then .inl (4, tS_ m.2) else if evenR a.1.2 (bG a.1.2 (bR a.1.2)) a.2.1 = true then .inr ((a.1.1, dRule a.1.2 a.2.1 m.1 (tW m.2 - 1)), adv T e m.2) else .inl (5, tS_ k)) else .inl (1, tS_ m.2)
def pLine (T : Nat → Int) (e : Nat) (D : Dr) (k : TK) : PR (Dr × TK) :=
  if k.1 = 1 then (if tW k = 16110 then pOwn T e D k else if tW k = 525618 then pTwo T e 1 D k else if tW k = 263558 then pTwo T e 2 D k else if tW k = 431284 then pMeet T e D k else .inl (1, tS_ k)) else .inl (1, tS_ k)
def pLines (T : Nat → Int) (e : Nat) : Nat → Dr → TK → PR Dr
  | 0, _, k => .inl (1, tS_ k)
  | r + 1, D, k => bindP (pLine T e D k) fun a => if a.2.1 = 0 then .inr a.1 else if a.2.1 = 3 then pLines T e r a.1 (adv T e a.2) else .inl (1, tS_ a.2)
/-- the text of e bytes: its fault, or the book -/
def pText (T : Nat → Int) (e : Nat) (D : Dr) : PR Dr := pLines T e 400 (D.1, ((0, 0), D.2.2)) (tok T e 0)
