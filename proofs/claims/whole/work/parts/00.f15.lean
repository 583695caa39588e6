def F_X7_addTerm_L31 (sh : List Sh) (f : Nat) (t : Nat) (p1 : Int64) (k2 : St → Int32 → Option (St)) : St → Int32 → Int64 → Option (St) := fun S l3 l4 =>
  (F_J9_floorMod_f86c9 sh f S p1 l4).bind fun y1 =>
  if l3 < 0 ∨ 4 ≤ l3.toNatClampNeg then none else
  (F_X7_inverse sh f S (sL S (t + 2) l3.toNatClampNeg) l4).bind fun y2 =>
  if l4 = 0 then none else
  bnd ((y1 * y2) - (y1 * y2) / l4 * l4) fun x3 =>
  if l3 < 0 ∨ 4 ≤ l3.toNatClampNeg then none else
  if l4 = 0 then none else
  if l3 < 0 ∨ 4 ≤ l3.toNatClampNeg then none else
  bnd (uL S (t + 1) l3.toNatClampNeg (((sL S (t + 1) l3.toNatClampNeg) + x3) - ((sL S (t + 1) l3.toNatClampNeg) + x3) / l4 * l4)) fun S4 =>
  bnd (l3 + (1 : Int32)) fun x5 =>
  k2 S4 x5
def F_X7_addTerm_L2 (sh : List Sh) (f : Nat) (t : Nat) (p1 : Int64) : Nat → St → Int32 → Option (St)
  | 0, _, _ => none
  | n + 1, S, l3 =>
    if (4 : Int32) ≤ l3 then (
      some S
    ) else (
      if l3 < 0 ∨ 4 ≤ l3.toNatClampNeg then none else
      bnd ((v_tf v_T2 l3.toNatClampNeg).toInt64) fun x2 =>
      if l3 < 0 ∨ 4 ≤ l3.toNatClampNeg then none else
      if (lg_cmp (sL S (t + 2) l3.toNatClampNeg) (0 : Int64)) = 0 then (
        bnd (uI S t 3 (1 : Int32)) fun S3 =>
        F_X7_addTerm_L31 sh f t p1 (F_X7_addTerm_L2 sh f t p1 n) S3 l3 x2
      ) else (
        F_X7_addTerm_L31 sh f t p1 (F_X7_addTerm_L2 sh f t p1 n) S l3 x2
      )
    )
def F_X7_addTerm (sh : List Sh) (f : Nat) (S : St) (t : Nat) (p1 : Int64) : Option (St) :=
  F_X7_addTerm_L2 sh f t p1 f S (0 : Int32)
def F_X7_addWorths_L53 (sh : List Sh) (f : Nat) (t : Nat) (p1 : Nat) (p2 : Nat) (p3 : Nat) (p4 n4 : Nat) (p5 : Int32) (p6 : Int32) (k3 : St → Int32 → Option (St)) : St → Int32 → Int32 → Option (St) := fun S l7 l8 =>
  (F_X7_divideByJoins sh f S t p1 l7 p2 p3 l8).bind fun y1 =>
  if l7 < 0 ∨ 200 ≤ l7.toNatClampNeg then none else
  (F_X7_above sh f y1 p1 l7 p4 n4).bind fun y2 =>
  (F_X7_addTerm sh f y1 t (((sA y1 (p1 + 3) l7.toNatClampNeg).toInt64) * y2)).bind fun y3 =>
  bnd (l7 + (1 : Int32)) fun x4 =>
  k3 y3 x4
def F_X7_addWorths_L31 (sh : List Sh) (f : Nat) (t : Nat) (p1 : Nat) (p2 : Nat) (p3 : Nat) (p4 n4 : Nat) (p5 : Int32) (p6 : Int32) (k3 : St → Int32 → Option (St)) : St → Int32 → Int32 → Option (St) := fun S l7 v0 =>
  (F_X3_loops sh f S p1 l7).bind fun y1 =>
  if y1 = 0 then (
    if p5 = 0 then (
      F_X7_addWorths_L53 sh f t p1 p2 p3 p4 n4 p5 p6 k3 S l7 v0
    ) else (
      if v0 = (-1 : Int32) then (
        bnd (l7 + (1 : Int32)) fun x3 =>
        k3 S x3
      ) else (
        F_X7_addWorths_L53 sh f t p1 p2 p3 p4 n4 p5 p6 k3 S l7 v0
      )
    )
  ) else (
    bnd (l7 + (1 : Int32)) fun x2 =>
    k3 S x2
  )
def F_X7_addWorths_L3 (sh : List Sh) (f : Nat) (t : Nat) (p1 : Nat) (p2 : Nat) (p3 : Nat) (p4 n4 : Nat) (p5 : Int32) (p6 : Int32) : Nat → St → Int32 → Option (St)
  | 0, _, _ => none
  | n + 1, S, l7 =>
    if (sI S p1 17) ≤ l7 then (
      some S
    ) else (
      if p5 = 0 then (
        F_X7_addWorths_L31 sh f t p1 p2 p3 p4 n4 p5 p6 (F_X7_addWorths_L3 sh f t p1 p2 p3 p4 n4 p5 p6 n) S l7 (-1 : Int32)
      ) else (
        (F_X7_findCut sh f S p1 l7 p5 p6).bind fun y1 =>
        F_X7_addWorths_L31 sh f t p1 p2 p3 p4 n4 p5 p6 (F_X7_addWorths_L3 sh f t p1 p2 p3 p4 n4 p5 p6 n) S l7 y1
      )
    )
def F_X7_addWorths (sh : List Sh) (f : Nat) (S : St) (t : Nat) (p1 : Nat) (p2 : Nat) (p3 : Nat) (p4 n4 : Nat) (p5 : Int32) (p6 : Int32) : Option (St) :=
  F_X7_addWorths_L3 sh f t p1 p2 p3 p4 n4 p5 p6 f S (0 : Int32)
def F_X7_addProduct_L63 (sh : List Sh) (f : Nat) (t : Nat) (p1 : Nat) (p2 : Nat) : Nat → St → Int32 → Option (St)
  | 0, _, _ => none
  | n + 1, S, l3 =>
    if (4 : Int32) ≤ l3 then (
      some S
    ) else (
      if l3 < 0 ∨ 4 ≤ l3.toNatClampNeg then none else
      if l3 < 0 ∨ 4 ≤ l3.toNatClampNeg then none else
      if l3 < 0 ∨ 4 ≤ l3.toNatClampNeg then none else
      if l3 < 0 ∨ 4 ≤ l3.toNatClampNeg then none else
      if ((v_tf v_T2 l3.toNatClampNeg).toInt64) = 0 then none else
      if l3 < 0 ∨ 4 ≤ l3.toNatClampNeg then none else
      bnd (uL S (t + 1) l3.toNatClampNeg (((sL S (t + 1) l3.toNatClampNeg) + ((sL S (p1 + 1) l3.toNatClampNeg) * (sL S (p2 + 1) l3.toNatClampNeg))) - ((sL S (t + 1) l3.toNatClampNeg) + ((sL S (p1 + 1) l3.toNatClampNeg) * (sL S (p2 + 1) l3.toNatClampNeg))) / ((v_tf v_T2 l3.toNatClampNeg).toInt64) * ((v_tf v_T2 l3.toNatClampNeg).toInt64))) fun S2 =>
      bnd (l3 + (1 : Int32)) fun x3 =>
      F_X7_addProduct_L63 sh f t p1 p2 n S2 x3
    )
def F_X7_addProduct_L31 (sh : List Sh) (f : Nat) (t : Nat) (p1 : Nat) (p2 : Nat) : St → Option (St) := fun S =>
  if (sI S t 3) = 0 then (
    if (sI S p1 3) = 0 then (
      if (sI S p2 3) = 0 then (
        bnd (uI S t 3 (0 : Int32)) fun S3 =>
        F_X7_addProduct_L63 sh f t p1 p2 f S3 (0 : Int32)
      ) else (
        bnd (uI S t 3 (1 : Int32)) fun S4 =>
        F_X7_addProduct_L63 sh f t p1 p2 f S4 (0 : Int32)
      )
    ) else (
      bnd (uI S t 3 (1 : Int32)) fun S2 =>
      F_X7_addProduct_L63 sh f t p1 p2 f S2 (0 : Int32)
    )
  ) else (
    bnd (uI S t 3 (1 : Int32)) fun S1 =>
    F_X7_addProduct_L63 sh f t p1 p2 f S1 (0 : Int32)
  )
def F_X7_addProduct_L28 (sh : List Sh) (f : Nat) (t : Nat) (p1 : Nat) (p2 : Nat) : St → Nat → Int32 → Option (St) := fun S v0 v1 =>
  bnd (uI S v0 2 v1) fun S1 =>
  F_X7_addProduct_L31 sh f t p1 p2 S1
def F_X7_addProduct (sh : List Sh) (f : Nat) (S : St) (t : Nat) (p1 : Nat) (p2 : Nat) : Option (St) :=
  if (sI S t 2) = (-1 : Int32) then (
    if (sI S p1 2) = (-1 : Int32) then (
      F_X7_addProduct_L28 sh f t p1 p2 S t (sI S p2 2)
    ) else (
      F_X7_addProduct_L28 sh f t p1 p2 S t (sI S p1 2)
    )
  ) else (
    F_X7_addProduct_L31 sh f t p1 p2 S
  )
def F_X7_restBy (sh : List Sh) (f : Nat) (S : St) (t : Nat) (p1 : Int32) : Option (Int32) :=
  if p1 < 0 then (
    some (-1 : Int32)
  ) else (
    if (4 : Int32) ≤ p1 then (
      some (-1 : Int32)
    ) else (
      if p1 < 0 ∨ 4 ≤ p1.toNatClampNeg then none else
      some ((sL S (t + 1) p1.toNatClampNeg).toInt32)
    )
  )
def F_X7_joinedRests (sh : List Sh) (f : Nat) (S : St) (t : Nat) : Option (Int64) :=
  if (0 : Int32) < 0 ∨ 4 ≤ (0 : Int32).toNatClampNeg then none else
  bnd ((v_tf v_T2 (0 : Int32).toNatClampNeg).toInt64) fun x2 =>
  if (1 : Int32) < 0 ∨ 4 ≤ (1 : Int32).toNatClampNeg then none else
  bnd ((v_tf v_T2 (1 : Int32).toNatClampNeg).toInt64) fun x4 =>
  if (2 : Int32) < 0 ∨ 4 ≤ (2 : Int32).toNatClampNeg then none else
  bnd ((v_tf v_T2 (2 : Int32).toNatClampNeg).toInt64) fun x6 =>
  if (1 : Int32) < 0 ∨ 4 ≤ (1 : Int32).toNatClampNeg then none else
  if (0 : Int32) < 0 ∨ 4 ≤ (0 : Int32).toNatClampNeg then none else
  (F_X7_inverse sh f S x2 x4).bind fun y7 =>
  (F_J9_floorMod_f86c9 sh f S (((sL S (t + 1) (1 : Int32).toNatClampNeg) - (sL S (t + 1) (0 : Int32).toNatClampNeg)) * y7) x4).bind fun y8 =>
  if (0 : Int32) < 0 ∨ 4 ≤ (0 : Int32).toNatClampNeg then none else
  bnd ((sL S (t + 1) (0 : Int32).toNatClampNeg) + (x2 * y8)) fun x9 =>
  bnd (x2 * x4) fun x10 =>
  if (2 : Int32) < 0 ∨ 4 ≤ (2 : Int32).toNatClampNeg then none else
  (F_J9_floorMod_f86c9 sh f S ((sL S (t + 1) (2 : Int32).toNatClampNeg) - x9) x6).bind fun y11 =>
  (F_X7_inverse sh f S x10 x6).bind fun y12 =>
  if x6 = 0 then none else
  bnd ((y11 * y12) - (y11 * y12) / x6 * x6) fun x13 =>
  some (x9 + (x10 * x13))
def F_X7_divisorOf_L9 (sh : List Sh) (f : Nat) (S : St) (p0 : Int64) (p2 : Int64) : Nat → Int64 → Int64 → Int32 → Option (Int64)
  | 0, _, _, _ => none
  | n + 1, l4, l6, l8 =>
    if (100 : Int32) ≤ l8 then (
      some l4
    ) else (
      if (lg_cmp l6 (0 : Int64)) = 0 then (
        some l4
      ) else (
        if l6 = 0 then none else
        bnd (l4 - l4 / l6 * l6) fun x1 =>
        bnd (l8 + (1 : Int32)) fun x2 =>
        F_X7_divisorOf_L9 sh f S p0 p2 n l6 x1 x2
      )
    )
def F_X7_divisorOf (sh : List Sh) (f : Nat) (S : St) (p0 : Int64) (p2 : Int64) : Option (Int64) :=
  F_X7_divisorOf_L9 sh f S p0 p2 f p0 p2 (0 : Int32)
def F_X7_takeFraction (sh : List Sh) (f : Nat) (S : St) (t : Nat) (p1 : Int64) (p3 : Int64) : Option (Int32 × St) :=
  if (lg_cmp p3 (1 : Int64)) < 0 then (
    some ((0 : Int32), S)
  ) else (
    if 0 < (lg_cmp p3 (500000000 : Int64)) then (
      some ((0 : Int32), S)
    ) else (
      (F_J9_abs_067f4 sh f S p1).bind fun y1 =>
      (F_X7_divisorOf sh f S y1 p3).bind fun y2 =>
      if (lg_cmp y2 (1 : Int64)) = 0 then (
        if (3 : Int32) < 0 ∨ 4 ≤ (3 : Int32).toNatClampNeg then none else
        bnd ((v_tf v_T2 (3 : Int32).toNatClampNeg).toInt64) fun x4 =>
        if (3 : Int32) < 0 ∨ 4 ≤ (3 : Int32).toNatClampNeg then none else
        (F_J9_floorMod_f86c9 sh f S (p1 - (p3 * (sL S (t + 1) (3 : Int32).toNatClampNeg))) x4).bind fun y5 =>
        if (lg_cmp y5 (0 : Int64)) = 0 then (
          bnd (uJ S t 4 p1) fun S6 =>
          bnd (uJ S6 t 5 p3) fun S7 =>
          some ((1 : Int32), S7)
        ) else (
          some ((0 : Int32), S)
        )
      ) else (
        some ((0 : Int32), S)
      )
    )
  )
def F_X7_findFraction_L101 (sh : List Sh) (f : Nat) (t : Nat) : St → Int64 → Int64 → Option (Int32 × St) := fun S l3 l7 =>
  if 0 < (lg_cmp l3 (500000000 : Int64)) then (
    some ((0 : Int32), S)
  ) else (
    if 0 ≤ (lg_cmp l7 (0 : Int64)) then (
      (F_J9_abs_067f4 sh f S l7).bind fun y1 =>
      (F_X7_takeFraction sh f S t l3 y1).bind fun y2 =>
      if y2.1 = 0 then (
        some ((0 : Int32), y2.2)
      ) else (
        some ((1 : Int32), y2.2)
      )
    ) else (
      (F_J9_abs_067f4 sh f S l7).bind fun y3 =>
      (F_X7_takeFraction sh f S t (-l3) y3).bind fun y4 =>
      if y4.1 = 0 then (
        some ((0 : Int32), y4.2)
      ) else (
        some ((1 : Int32), y4.2)
      )
    )
  )
def F_X7_findFraction_L44 (sh : List Sh) (f : Nat) (t : Nat) : Nat → St → Int64 → Int64 → Int64 → Int64 → Int32 → Option (Int32 × St)
  | 0, _, _, _, _, _, _ => none
  | n + 1, S, l1, l3, l5, l7, l9 =>
    if (100 : Int32) ≤ l9 then (
      F_X7_findFraction_L101 sh f t S l3 l7
    ) else (
      if (lg_cmp l3 (500000000 : Int64)) ≤ 0 then (
        F_X7_findFraction_L101 sh f t S l3 l7
      ) else (
        if l3 = 0 then none else
        bnd (l1 / l3) fun x1 =>
        bnd (l1 - (x1 * l3)) fun x2 =>
        bnd (l5 - (x1 * l7)) fun x3 =>
        bnd (l9 + (1 : Int32)) fun x4 =>
        F_X7_findFraction_L44 sh f t n S l3 x2 l7 x3 x4
      )
    )
def F_X7_findFraction (sh : List Sh) (f : Nat) (S : St) (t : Nat) : Option (Int32 × St) :=
  if (sI S t 3) = 0 then (
    if (0 : Int32) < 0 ∨ 4 ≤ (0 : Int32).toNatClampNeg then none else
    if (1 : Int32) < 0 ∨ 4 ≤ (1 : Int32).toNatClampNeg then none else
    if (2 : Int32) < 0 ∨ 4 ≤ (2 : Int32).toNatClampNeg then none else
    bnd ((((v_tf v_T2 (0 : Int32).toNatClampNeg).toInt64) * ((v_tf v_T2 (1 : Int32).toNatClampNeg).toInt64)) * ((v_tf v_T2 (2 : Int32).toNatClampNeg).toInt64)) fun x4 =>
    (F_X7_joinedRests sh f S t).bind fun y5 =>
    F_X7_findFraction_L44 sh f t f S x4 y5 (0 : Int64) (1 : Int64) (0 : Int32)
  ) else (
    some ((0 : Int32), S)
  )
def F_X8_feed (sh : List Sh) (f : Nat) (S : St) (t : Nat) (p1 : Int32) (p2 : Int32) (p3 : Int32) (p4 : Int32) (p5 : Int32) : Option (Int32 × St) :=
  (F_X6_take sh f S (t + 1) p1 p2 p3 p4 p5).bind fun y1 =>
  some (y1.1, y1.2)
def F_X8_refused (sh : List Sh) (f : Nat) (S : St) (t : Nat) (p1 : Int32) : Option (Int32 × St) :=
  bnd (uI S t 16 p1) fun S1 =>
  some ((-1 : Int32), S1)
def F_X8_book_L87 (sh : List Sh) (f : Nat) (t : Nat) (p1 : Int32) : Nat → St → Int32 → Option (Int32 × St)
  | 0, _, _ => none
  | n + 1, S, l4 =>
    if (3 : Int32) ≤ l4 then (
      bnd (uI S t 16 (0 : Int32)) fun S1 =>
      (sR S1 t 10).bind fun b2 =>
      if ckX0 sh b2 = true then (
        some ((sI S1 b2 9), S1)
      ) else none
    ) else (
      if l4 < 0 ∨ 3 ≤ l4.toNatClampNeg then none else
      bnd (uA S (t + 59) l4.toNatClampNeg (1 : Int32)) fun S3 =>
      bnd (l4 + (1 : Int32)) fun x4 =>
      F_X8_book_L87 sh f t p1 n S3 x4
    )
def F_X8_book (sh : List Sh) (f : Nat) (S : St) (t : Nat) (p1 : Int32) : Option (Int32 × St) :=
  if p1 < 0 then (
    (F_X8_refused sh f S t (2 : Int32)).bind fun y1 =>
    some (y1.1, y1.2)
  ) else (
    if p1 ≤ (sI S (t + 1) 1) then (
      (F_X6_read sh f S (t + 1) p1).bind fun y2 =>
      bnd y2.1 fun x3 =>
      bnd (uI y2.2 (t + 1) 1 (0 : Int32)) fun S4 =>
      if x3 = 0 then (
        (F_X8_refused sh f S4 t (4 : Int32)).bind fun y11 =>
        some (y11.1, y11.2)
      ) else (
        (sR S4 t 10).bind fun b5 =>
        if ckX0 sh b5 = true then (
          (sR S4 (t + 1) 10).bind fun b6 =>
          if ckX0 sh b6 = true then (
            bnd (uR S4 t 10 (some b6)) fun S7 =>
            bnd (uR S7 (t + 1) 10 (some b5)) fun S8 =>
            (F_X1_clear sh f S8 (t + 44)).bind fun y9 =>
            bnd (uI y9 t 14 (0 : Int32)) fun S10 =>
            F_X8_book_L87 sh f t p1 f S10 (0 : Int32)
          ) else none
        ) else none
      )
    ) else (
      (F_X8_refused sh f S t (2 : Int32)).bind fun y12 =>
      some (y12.1, y12.2)
    )
  )
def F_X8_fault (sh : List Sh) (f : Nat) (S : St) (t : Nat) : Option (Int32) :=
  some (sI S (t + 1) 8)
def F_X8_where (sh : List Sh) (f : Nat) (S : St) (t : Nat) : Option (Int32) :=
  if (sI S t 16) = (4 : Int32) then (
    some (sI S (t + 1) 9)
  ) else (
    some (-1 : Int32)
  )
def F_X8_kind (sh : List Sh) (f : Nat) (S : St) (t : Nat) (p1 : Int32) (p2 : Int32) : Option (Int32) :=
  (sR S t 10).bind fun b1 =>
  if ckX0 sh b1 = true then (
    (F_X0_ofKind sh f S b1 p1 p2).bind fun y2 =>
    some y2
  ) else none
def F_X8_rule (sh : List Sh) (f : Nat) (S : St) (t : Nat) (p1 : Int32) (p2 : Int32) : Option (Int32) :=
  (sR S t 10).bind fun b1 =>
  if ckX0 sh b1 = true then (
    (F_X0_ofRule sh f S b1 p1 p2).bind fun y2 =>
    some y2
  ) else none
def F_X8_meeting_L133 (sh : List Sh) (f : Nat) (t : Nat) (p1 : Int32) (p2 : Int32) (p3 : Int32) (p4 : Int32) (p5 : Int32) (p6 : Int32) : Nat → St → Int32 → Int32 → Option (Int32 × St)
  | 0, _, _, _ => none
  | n + 1, S, l7, l8 =>
    if l7 ≤ l8 then (
      bnd (uI S t 14 (0 : Int32)) fun S1 =>
      bnd (uI S1 t 16 (0 : Int32)) fun S2 =>
      some (l7, S2)
    ) else (
      if l8 < 0 ∨ 6 ≤ l8.toNatClampNeg then none else
      (F_X1_add sh f S (t + 44) (sA S (t + 60) l8.toNatClampNeg) (0 : Int32)).bind fun y3 =>
      bnd (l8 + (1 : Int32)) fun x4 =>
      F_X8_meeting_L133 sh f t p1 p2 p3 p4 p5 p6 n y3 l7 x4
    )
def F_X8_meeting_L95 (sh : List Sh) (f : Nat) (t : Nat) (p1 : Int32) (p2 : Int32) (p3 : Int32) (p4 : Int32) (p5 : Int32) (p6 : Int32) : St → Int32 → Option (Int32 × St) := fun S l7 =>
  (sR S t 10).bind fun b1 =>
  if ckX0 sh b1 = true then (
    (F_X0_isTold sh f S b1).bind fun y2 =>
    if y2 = 0 then (
      (F_X8_refused sh f S t (1 : Int32)).bind fun y5 =>
      some (y5.1, y5.2)
    ) else (
      if (2 : Int32) ≤ l7 then (
        (F_X1_clear sh f S (t + 44)).bind fun y3 =>
        F_X8_meeting_L133 sh f t p1 p2 p3 p4 p5 p6 f y3 l7 (0 : Int32)
      ) else (
        (F_X8_refused sh f S t (2 : Int32)).bind fun y4 =>
        some (y4.1, y4.2)
      )
    )
  ) else none
def F_X8_meeting_L48 (sh : List Sh) (f : Nat) (t : Nat) (p1 : Int32) (p2 : Int32) (p3 : Int32) (p4 : Int32) (p5 : Int32) (p6 : Int32) : Nat → St → Int32 → Option (Int32 × St)
  | 0, _, _ => none
  | n + 1, S, l7 =>
    if (6 : Int32) ≤ l7 then (
      F_X8_meeting_L95 sh f t p1 p2 p3 p4 p5 p6 S l7
    ) else (
      if l7 < 0 ∨ 6 ≤ l7.toNatClampNeg then none else
      if (sA S (t + 60) l7.toNatClampNeg) = (-1 : Int32) then (
        F_X8_meeting_L95 sh f t p1 p2 p3 p4 p5 p6 S l7
      ) else (
        (sR S t 10).bind fun b1 =>
        if ckX0 sh b1 = true then (
          if l7 < 0 ∨ 6 ≤ l7.toNatClampNeg then none else
          (F_X0_hasKind sh f S b1 (sA S (t + 60) l7.toNatClampNeg)).bind fun y2 =>
          if y2 = 0 then (
            (F_X8_refused sh f S t (1 : Int32)).bind fun y4 =>
            some (y4.1, y4.2)
          ) else (
            bnd (l7 + (1 : Int32)) fun x3 =>
            F_X8_meeting_L48 sh f t p1 p2 p3 p4 p5 p6 n S x3
          )
        ) else none
      )
    )
def F_X8_meeting (sh : List Sh) (f : Nat) (S : St) (t : Nat) (p1 : Int32) (p2 : Int32) (p3 : Int32) (p4 : Int32) (p5 : Int32) (p6 : Int32) : Option (Int32 × St) :=
  if (0 : Int32) < 0 ∨ 6 ≤ (0 : Int32).toNatClampNeg then none else
  bnd (uA S (t + 60) (0 : Int32).toNatClampNeg p1) fun S1 =>
  if (1 : Int32) < 0 ∨ 6 ≤ (1 : Int32).toNatClampNeg then none else
  bnd (uA S1 (t + 60) (1 : Int32).toNatClampNeg p2) fun S2 =>
  if (2 : Int32) < 0 ∨ 6 ≤ (2 : Int32).toNatClampNeg then none else
  bnd (uA S2 (t + 60) (2 : Int32).toNatClampNeg p3) fun S3 =>
  if (3 : Int32) < 0 ∨ 6 ≤ (3 : Int32).toNatClampNeg then none else
  bnd (uA S3 (t + 60) (3 : Int32).toNatClampNeg p4) fun S4 =>
  if (4 : Int32) < 0 ∨ 6 ≤ (4 : Int32).toNatClampNeg then none else
  bnd (uA S4 (t + 60) (4 : Int32).toNatClampNeg p5) fun S5 =>
  if (5 : Int32) < 0 ∨ 6 ≤ (5 : Int32).toNatClampNeg then none else
  bnd (uA S5 (t + 60) (5 : Int32).toNatClampNeg p6) fun S6 =>
  F_X8_meeting_L48 sh f t p1 p2 p3 p4 p5 p6 f S6 (0 : Int32)
