def v_tf (L : List Int32) : Nat → Int32 := fun j => L.getD j 0
abbrev Sh : Type := (FieldType × Nat) ⊕ (Nat × List (Nat × Nat))
abbrev St : Type := (Nat → Nat → Int32) × (Nat → Nat → Int64) × (Nat → Nat → Int32) × (Nat → Nat → Int64) × (Nat → Nat → Option Nat)
def sA (S : St) : Nat → Nat → Int32 := S.1
def sL (S : St) : Nat → Nat → Int64 := S.2.1
def sI (S : St) : Nat → Nat → Int32 := S.2.2.1
def sJ (S : St) : Nat → Nat → Int64 := S.2.2.2.1
def sR (S : St) : Nat → Nat → Option Nat := S.2.2.2.2
def up1 {α : Type} (f : Nat → α) (k : Nat) (x : α) : Nat → α := fun i => bif Nat.beq i k then x else f i
def up2 {α : Type} (f : Nat → Nat → α) (k j : Nat) (x : α) : Nat → Nat → α := up1 f k (up1 (f k) j x)
def uA (S : St) (k j : Nat) (x : Int32) : St := (up2 S.1 k j x, S.2)
def uL (S : St) (k j : Nat) (x : Int64) : St := (S.1, up2 S.2.1 k j x, S.2.2)
def uI (S : St) (k j : Nat) (x : Int32) : St := (S.1, S.2.1, up2 S.2.2.1 k j x, S.2.2.2)
def uJ (S : St) (k j : Nat) (x : Int64) : St := (S.1, S.2.1, S.2.2.1, up2 S.2.2.2.1 k j x, S.2.2.2.2)
def uR (S : St) (k j : Nat) (x : Option Nat) : St := (S.1, S.2.1, S.2.2.1, S.2.2.2.1, up2 S.2.2.2.2 k j x)
theorem up1_self {α : Type} (f : Nat → α) (k : Nat) (x : α) : up1 f k x k = x := by
  rw [up1, show Nat.beq k k = true from Nat.beq_refl k]
  rfl
theorem up1_ne {α : Type} (f : Nat → α) {k i : Nat} (x : α) (h : i ≠ k) : up1 f k x i = f i := by
  have e : Nat.beq i k = false := by
    cases hx : Nat.beq i k with
    | true => exact absurd (Nat.eq_of_beq_eq_true hx) h
    | false => rfl
  rw [up1, e]
  rfl
theorem up2_row {α : Type} (f : Nat → Nat → α) {k i : Nat} (j : Nat) (x : α) (h : i ≠ k) : up2 f k j x i = f i := up1_ne f _ h
theorem up2_self {α : Type} (f : Nat → Nat → α) (k j : Nat) (x : α) : up2 f k j x k j = x := by rw [up2, up1_self, up1_self]
theorem up2_ne {α : Type} (f : Nat → Nat → α) (k : Nat) {j i : Nat} (x : α) (h : i ≠ j) : up2 f k j x k i = f k i := by rw [up2, up1_self, up1_ne _ _ h]
theorem uI_o {S : St} {k j i : Nat} {x : Int32} (h : i ≠ k) : sA (uI S k j x) i = sA S i ∧ sL (uI S k j x) i = sL S i ∧ sI (uI S k j x) i = sI S i ∧ sJ (uI S k j x) i = sJ S i ∧ sR (uI S k j x) i = sR S i := ⟨rfl, rfl, up2_row _ _ _ h, rfl, rfl⟩
theorem uJ_o {S : St} {k j i : Nat} {x : Int64} (h : i ≠ k) : sA (uJ S k j x) i = sA S i ∧ sL (uJ S k j x) i = sL S i ∧ sI (uJ S k j x) i = sI S i ∧ sJ (uJ S k j x) i = sJ S i ∧ sR (uJ S k j x) i = sR S i := ⟨rfl, rfl, rfl, up2_row _ _ _ h, rfl⟩
theorem uR_o {S : St} {k j i : Nat} {x : Option Nat} (h : i ≠ k) : sA (uR S k j x) i = sA S i ∧ sL (uR S k j x) i = sL S i ∧ sI (uR S k j x) i = sI S i ∧ sJ (uR S k j x) i = sJ S i ∧ sR (uR S k j x) i = sR S i := ⟨rfl, rfl, rfl, rfl, up2_row _ _ _ h⟩
theorem uA_o {S : St} {k j i : Nat} {x : Int32} (h : i ≠ k) : sA (uA S k j x) i = sA S i ∧ sL (uA S k j x) i = sL S i ∧ sI (uA S k j x) i = sI S i ∧ sJ (uA S k j x) i = sJ S i ∧ sR (uA S k j x) i = sR S i := ⟨up2_row _ _ _ h, rfl, rfl, rfl, rfl⟩
theorem uL_o {S : St} {k j i : Nat} {x : Int64} (h : i ≠ k) : sA (uL S k j x) i = sA S i ∧ sL (uL S k j x) i = sL S i ∧ sI (uL S k j x) i = sI S i ∧ sJ (uL S k j x) i = sJ S i ∧ sR (uL S k j x) i = sR S i := ⟨rfl, up2_row _ _ _ h, rfl, rfl, rfl⟩
def bnd {α β : Type} (a : α) (f : α → β) : β := f a
def oN {α : Type} (o : Option Nat) (a b : Option α) : Option α := match o with
  | none => a
  | some _ => b
def ck_all (L : List (Nat × Sh)) (sh : List Sh) (t : Nat) : Bool := L.all fun q => decide (sh[t + q.1]? = some q.2)
def ck_P (sh : List Sh) (t : Nat) : List (Nat × Sh) → Prop
  | [] => True
  | q :: L => sh[t + q.1]? = some q.2 ∧ ck_P sh t L
theorem ck_ok {sh : List Sh} {t : Nat} : ∀ {L : List (Nat × Sh)}, ck_all L sh t = true → ck_P sh t L
  | [], _ => trivial
  | q :: L, h => by
    have h1 := Bool.and_eq_true_iff.mp (show (decide (sh[t + q.1]? = some q.2) && ck_all L sh t) = true from h)
    exact ⟨of_decide_eq_true h1.1, ck_ok h1.2⟩
abbrev shX0 : Sh := .inr (0, [(2, 1), (2, 2), (2, 3), (2, 4), (2, 5), (2, 6), (2, 7), (2, 8), (2, 9), (0, 0), (0, 0)])
def ckX0 (sh : List Sh) (t : Nat) : Bool := ck_all [(0, shX0), (1, .inl (.long, 8)), (2, .inl (.int, 8)), (3, .inl (.int, 8)), (4, .inl (.int, 8)), (5, .inl (.int, 8)), (6, .inl (.int, 4)), (7, .inl (.int, 4)), (8, .inl (.int, 4)), (9, .inl (.int, 16))] sh t
abbrev shX1 : Sh := .inr (1, [(2, 1), (2, 2), (0, 0)])
abbrev shX2 : Sh := .inr (2, [(2, 1), (2, 2), (2, 3), (0, 0), (1, 0), (1, 0)])
abbrev shX3 : Sh := .inr (3, [(2, 1), (2, 2), (2, 3), (2, 4), (2, 5), (2, 6), (2, 7), (2, 8), (2, 9), (2, 10), (2, 11), (2, 12), (2, 13), (2, 14), (2, 15), (2, 16), (0, 0), (0, 0), (0, 0), (0, 0)])
def ckX3 (sh : List Sh) (t : Nat) : Bool := ck_all [(0, shX3), (1, .inl (.long, 200)), (2, .inl (.int, 200)), (3, .inl (.int, 200)), (4, .inl (.int, 200)), (5, .inl (.int, 200)), (6, .inl (.int, 400)), (7, .inl (.int, 400)), (8, .inl (.int, 20)), (9, .inl (.int, 20)), (10, .inl (.int, 20)), (11, .inl (.int, 20)), (12, .inl (.int, 20)), (13, .inl (.int, 20)), (14, .inl (.int, 20)), (15, .inl (.int, 20)), (16, .inl (.boolean, 20))] sh t
abbrev shX4 : Sh := .inr (4, [(2, 1), (2, 2), (2, 3), (2, 4), (2, 5), (2, 6), (2, 7), (0, 0), (0, 0), (0, 0), (0, 0), (0, 0), (0, 0)])
abbrev shX7 : Sh := .inr (7, [(2, 1), (2, 2), (0, 0), (0, 0), (1, 0), (1, 0)])
def ckX7 (sh : List Sh) (t : Nat) : Bool := ck_all [(0, shX7), (1, .inl (.long, 4)), (2, .inl (.long, 4))] sh t
abbrev shX9 : Sh := .inr (9, [(0, 0), (0, 0), (2, 1), (2, 2), (2, 3), (2, 4), (2, 5), (2, 6), (2, 7), (2, 8), (2, 9), (2, 10)])
abbrev isX9 (sh : List Sh) (t : Nat) : Prop := sh[t]? = some shX9 ∧ sh[t + 1]? = some (.inl (.long, 8)) ∧ sh[t + 2]? = some (.inl (.int, 8)) ∧ sh[t + 3]? = some (.inl (.int, 8)) ∧ sh[t + 4]? = some (.inl (.int, 8)) ∧ sh[t + 5]? = some (.inl (.int, 8)) ∧ sh[t + 6]? = some (.inl (.int, 4)) ∧ sh[t + 7]? = some (.inl (.int, 16)) ∧ sh[t + 8]? = some (.inl (.int, 4)) ∧ sh[t + 9]? = some (.inl (.int, 4)) ∧ sh[t + 10]? = some (.inl (.boolean, 8))
def ckX9 (sh : List Sh) (t : Nat) : Bool := ck_all [(0, shX9), (1, .inl (.long, 8)), (2, .inl (.int, 8)), (3, .inl (.int, 8)), (4, .inl (.int, 8)), (5, .inl (.int, 8)), (6, .inl (.int, 4)), (7, .inl (.int, 16)), (8, .inl (.int, 4)), (9, .inl (.int, 4)), (10, .inl (.boolean, 8))] sh t
theorem ckX9_ok {sh : List Sh} {t : Nat} (h : ckX9 sh t = true) : isX9 sh t := by
  have h := ck_ok h
  exact ⟨h.1, h.2.1, h.2.2.1, h.2.2.2.1, h.2.2.2.2.1, h.2.2.2.2.2.1, h.2.2.2.2.2.2.1, h.2.2.2.2.2.2.2.1, h.2.2.2.2.2.2.2.2.1, h.2.2.2.2.2.2.2.2.2.1, h.2.2.2.2.2.2.2.2.2.2.1⟩
abbrev shX10 : Sh := .inr (10, [(0, 0), (0, 0), (0, 0), (0, 0), (2, 1), (2, 2), (2, 3), (2, 4), (2, 5), (2, 6)])
abbrev shX11 : Sh := .inr (11, [(3, 0), (3, 0), (3, 0), (3, 0), (3, 0), (0, 0), (0, 0), (0, 0)])
def ckX11 (sh : List Sh) (t : Nat) : Bool := ck_all [(0, shX11)] sh t
abbrev shX5 : Sh := .inr (5, [(2, 1), (2, 9), (3, 0)])
abbrev shX6 : Sh := .inr (6, [(2, 1), (0, 0), (0, 0), (0, 0), (0, 0), (0, 0), (1, 0), (0, 0), (0, 0), (0, 0), (3, 0)])
abbrev shX8 : Sh := .inr (8, [(2, 1), (2, 13), (2, 40), (2, 44), (2, 47), (2, 50), (2, 53), (2, 56), (2, 59), (2, 60), (3, 0), (3, 0), (3, 0), (3, 0), (0, 0), (0, 0), (0, 0), (0, 0)])
abbrev shX12 : Sh := .inr (12, [(0, 0), (0, 0), (0, 0), (0, 0), (0, 0), (3, 0), (3, 0), (2, 12), (2, 13), (0, 0), (0, 0), (0, 0), (0, 0), (0, 0), (0, 0), (0, 0), (1, 0), (0, 0), (0, 0), (2, 14), (2, 15), (2, 16), (2, 17), (2, 24), (2, 31), (0, 0), (0, 0), (2, 38), (2, 39), (2, 40), (2, 41), (2, 42), (2, 43), (2, 44), (2, 45), (0, 0), (2, 46), (2, 47), (0, 0), (2, 48), (0, 0), (2, 49), (2, 50), (2, 51), (2, 52), (2, 53), (2, 54), (2, 55), (2, 56), (2, 57), (2, 58), (2, 59), (2, 60), (1, 0), (1, 0), (2, 61), (2, 62), (0, 0), (2, 63)])
abbrev v_T0 : List Int32 := [0, 1, 2, 1, 0, 2, 0, 2, 1, 1, 2, 0, 2, 0, 1, 2, 1, 0]
abbrev v_T1 : List Int32 := [2, 3, 5, 7, 11, 13, 17, 19, 23, 29, 31, 37, 41, 43, 47, 53, 59, 61, 67, 71, 73, 79, 83, 89, 97]
abbrev v_T2 : List Int32 := [1000003, 1000033, 1000037, 1000039]
def v_sx : List (Nat × String × List Int32) := [(209, "own", [111, 119, 110]), (215, "pair", [112, 97, 105, 114]), (217, "half", [104, 97, 108, 102]), (219, "meet", [109, 101, 101, 116]), (221, "by", [98, 121]), (291, "a", [97]), (293, "b", [98]), (295, "c", [99])]
def v_sq (i : Nat) : Nat × String × List Int32 := v_sx.getD i (0, "", [])
def v_sb (i : Nat) : List Int32 := (v_sq i).2.2
def thr {α β : Type} (y : α ⊕ (Nat × St)) (f : α → Option (β ⊕ (Nat × St))) : Option (β ⊕ (Nat × St)) := match y with
  | .inl a => f a
  | .inr q => some (.inr q)
/-- S, and zeros from the cell n on -/
def zS (S : St) (n : Nat) : St := (fun k => if k < n then S.1 k else fun _ => 0, fun k => if k < n then S.2.1 k else fun _ => 0, fun k => if k < n then S.2.2.1 k else fun _ => 0, fun k => if k < n then S.2.2.2.1 k else fun _ => 0, fun k => if k < n then S.2.2.2.2 k else fun _ => none)
def bkSh : List Sh := [shX9, .inl (.long, 8), .inl (.int, 8), .inl (.int, 8), .inl (.int, 8), .inl (.int, 8), .inl (.int, 4), .inl (.int, 16), .inl (.int, 4), .inl (.int, 4), .inl (.boolean, 8)]
theorem bk_at {sh : List Sh} (j : Nat) {c : Sh} (h : bkSh[j]? = some c) : (sh ++ bkSh)[sh.length + j]? = some c := by
  rw [List.getElem?_append_right (Nat.le_add_right _ _), Nat.add_sub_cancel_left]; exact h
def thr2 {α β : Type} (y : α ⊕ (Nat × St)) (f : α → Option β) (g : Nat × St → Option β) : Option β := match y with
  | .inl a => f a
  | .inr q => g q
def oM {α : Type} (o : Option Nat) (a : Option α) (f : Nat → Option α) : Option α := match o with
  | none => a
  | some b => f b
def exSh : List Sh := [.inr (100, [])]
def SHa : List Sh := [shX8, shX6, .inl (.byte, 400), shX0, .inl (.long, 8), .inl (.int, 8), .inl (.int, 8), .inl (.int, 8), .inl (.int, 8), .inl (.int, 4), .inl (.int, 4), .inl (.int, 4), .inl (.int, 16), shX5, shX4, .inl (.int, 12), .inl (.int, 12), .inl (.int, 12), .inl (.int, 12), .inl (.int, 12), .inl (.int, 3), .inl (.int, 3), .inl (.int, 144), shX3, .inl (.long, 200), .inl (.int, 200), .inl (.int, 200), .inl (.int, 200), .inl (.int, 200), .inl (.int, 400), .inl (.int, 400), .inl (.int, 20), .inl (.int, 20), .inl (.int, 20), .inl (.int, 20), .inl (.int, 20), .inl (.int, 20), .inl (.int, 20), .inl (.int, 20), .inl (.boolean, 20), shX2, .inl (.int, 25), .inl (.long, 12), .inl (.long, 12), shX1, .inl (.int, 6), .inl (.int, 6), shX1, .inl (.int, 6), .inl (.int, 6), shX1, .inl (.int, 6), .inl (.int, 6), shX7, .inl (.long, 4), .inl (.long, 4), shX7, .inl (.long, 4), .inl (.long, 4), .inl (.int, 3), .inl (.int, 6), shX0, .inl (.long, 8), .inl (.int, 8), .inl (.int, 8), .inl (.int, 8), .inl (.int, 8), .inl (.int, 4), .inl (.int, 4), .inl (.int, 4), .inl (.int, 16), shX3, .inl (.long, 200), .inl (.int, 200), .inl (.int, 200), .inl (.int, 200), .inl (.int, 200), .inl (.int, 400), .inl (.int, 400), .inl (.int, 20), .inl (.int, 20), .inl (.int, 20), .inl (.int, 20), .inl (.int, 20), .inl (.int, 20), .inl (.int, 20), .inl (.int, 20), .inl (.boolean, 20), shX7, .inl (.long, 4), .inl (.long, 4), shX7, .inl (.long, 4), .inl (.long, 4)]
def SHb : List Sh := [shX12, shX9, .inl (.long, 8), .inl (.int, 8), .inl (.int, 8), .inl (.int, 8), .inl (.int, 8), .inl (.int, 4), .inl (.int, 16), .inl (.int, 4), .inl (.int, 4), .inl (.boolean, 8), shX11, .inl (.byte, 400), .inl (.int, 6), .inl (.int, 6), .inl (.int, 3), shX10, .inl (.int, 6), .inl (.int, 6), .inl (.int, 600), .inl (.int, 200), .inl (.int, 200), .inl (.long, 200), shX10, .inl (.int, 6), .inl (.int, 6), .inl (.int, 600), .inl (.int, 200), .inl (.int, 200), .inl (.long, 200), shX10, .inl (.int, 6), .inl (.int, 6), .inl (.int, 600), .inl (.int, 200), .inl (.int, 200), .inl (.long, 200), .inl (.int, 12), .inl (.int, 12), .inl (.int, 12), .inl (.int, 3), .inl (.int, 9), .inl (.long, 10395), .inl (.int, 10395), .inl (.int, 10395), .inl (.int, 12), .inl (.int, 12), .inl (.int, 3), .inl (.int, 6), .inl (.int, 16), .inl (.int, 16), .inl (.int, 16), .inl (.int, 16), .inl (.int, 16), .inl (.int, 16), .inl (.int, 16), .inl (.int, 3), .inl (.long, 800), .inl (.long, 800), .inl (.int, 800), .inl (.int, 4), .inl (.int, 4), .inl (.long, 2)]
def SH : List Sh := SHa ++ (SHb ++ [.inl (.long, 1)])
def S0 : St := (fun k => if k = 59 then (upd (upd (upd (fun _ => 0) 0 1) 1 1) 2 1) else if k = 110 then (upd (upd (upd (fun _ => 0) 0 1) 1 1) 2 1) else if k = 156 then (upd (upd (upd (upd (fun _ => 0) 0 (-1)) 1 (-1)) 2 (-1)) 3 (-1)) else fun _ => 0, fun _ _ => 0, fun k j => if k = 53 then (if j = 2 then (-1) else 0) else if k = 56 then (if j = 2 then (-1) else 0) else if k = 88 then (if j = 2 then (-1) else 0) else if k = 91 then (if j = 2 then (-1) else 0) else if k = 94 then (if j = 2 then (-1) else if j = 4 then (-1) else 0) else 0, fun k j => if k = 94 then (if j = 53 then (-9223372036854775808) else if j = 54 then (-9223372036854775808) else 0) else 0, fun k j => if k = 0 then (if j = 10 then some 61 else if j = 11 then some 71 else if j = 12 then some 88 else if j = 13 then some 91 else none) else if k = 1 then (if j = 10 then some 3 else none) else if k = 13 then (if j = 2 then some 23 else none) else if k = 94 then (if j = 6 then some 95 else none) else none)
