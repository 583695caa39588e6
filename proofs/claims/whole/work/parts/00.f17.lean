def F_X8_at (sh : List Sh) (f : Nat) (S : St) (t : Nat) (p1 : Int32) : Option (Int32 × St) :=
  (F_X8_orderRefusal sh f S t p1).bind fun y1 =>
  if y1 = 0 then (
    (F_X8_reckonWhole sh f S t p1 (0 : Int32) (-1 : Int32)).bind fun y3 =>
    bnd y3.1 fun x4 =>
    (F_X8_allowed sh f y3.2 t x4).bind fun y5 =>
    if ¬ (y5.1 = 0 ∨ y5.1 = 1) then none else
    some (y5.1, y5.2)
  ) else (
    (F_X8_allowed sh f S t y1).bind fun y2 =>
    if ¬ (y2.1 = 0 ∨ y2.1 = 1) then none else
    some (y2.1, y2.2)
  )
def F_X8_cutRefusal (sh : List Sh) (f : Nat) (S : St) (t : Nat) (p1 : Int32) (p2 : Int32) (p3 : Int32) : Option (Int32) :=
  if (sI S (t + 44) 2) = 0 then (
    some (1 : Int32)
  ) else (
    (F_X1_isSide sh f S (t + 44) p1).bind fun y1 =>
    if y1 = 0 then (
      some (1 : Int32)
    ) else (
      (sR S t 10).bind fun b2 =>
      if ckX0 sh b2 = true then (
        (F_X0_hasKind sh f S b2 p2).bind fun y3 =>
        if y3 = 0 then (
          some (1 : Int32)
        ) else (
          if p3 < (2 : Int32) then (
            some (2 : Int32)
          ) else (
            if p3 ≤ (3 : Int32) then (
              some (0 : Int32)
            ) else (
              some (2 : Int32)
            )
          )
        )
      ) else none
    )
  )
def F_X8_splitEnds_L46 (sh : List Sh) (f : Nat) (t : Nat) (p1 : Int32) (p2 : Int32) (k16 : St → Int32 → Option (St)) : St → Int32 → Nat → Option (St) := fun S l3 v0 =>
  if l3 < 0 ∨ 6 ≤ l3.toNatClampNeg then none else
  if l3 < 0 ∨ 6 ≤ l3.toNatClampNeg then none else
  (F_X1_add sh f S v0 (sA S ((t + 44) + 1) l3.toNatClampNeg) (sA S ((t + 44) + 2) l3.toNatClampNeg)).bind fun y1 =>
  bnd (l3 + (1 : Int32)) fun x2 =>
  k16 y1 x2
def F_X8_splitEnds_L16 (sh : List Sh) (f : Nat) (t : Nat) (p1 : Int32) (p2 : Int32) : Nat → St → Int32 → Option (St)
  | 0, _, _ => none
  | n + 1, S, l3 =>
    if (sI S (t + 44) 2) ≤ l3 then (
      (F_X1_total sh f S (t + 47)).bind fun y1 =>
      (F_X1_add sh f S (t + 47) p2 (-y1)).bind fun y2 =>
      (sR y2 t 10).bind fun b3 =>
      if ckX0 sh b3 = true then (
        (F_X0_ofKind sh f y2 b3 p2 (0 : Int32)).bind fun y4 =>
        (F_X1_total sh f y2 (t + 50)).bind fun y5 =>
        (F_X1_add sh f y2 (t + 50) y4 (-y5)).bind fun y6 =>
        some y6
      ) else none
    ) else (
      if ((p1 >>> (l3 &&& 31)) &&& (1 : Int32)) = 0 then (
        F_X8_splitEnds_L46 sh f t p1 p2 (F_X8_splitEnds_L16 sh f t p1 p2 n) S l3 (t + 50)
      ) else (
        F_X8_splitEnds_L46 sh f t p1 p2 (F_X8_splitEnds_L16 sh f t p1 p2 n) S l3 (t + 47)
      )
    )
def F_X8_splitEnds (sh : List Sh) (f : Nat) (S : St) (t : Nat) (p1 : Int32) (p2 : Int32) : Option (St) :=
  (F_X1_clear sh f S (t + 47)).bind fun y1 =>
  (F_X1_clear sh f y1 (t + 50)).bind fun y2 =>
  F_X8_splitEnds_L16 sh f t p1 p2 f y2 (0 : Int32)
def F_X8_reckonParts_L74 (sh : List Sh) (f : Nat) (t : Nat) (p1 : Int32) (p2 : Int32) (p3 : Int32) : Nat → St → Int32 → Option (Int32 × St)
  | 0, _, _ => none
  | n + 1, S, l4 =>
    if p3 ≤ l4 then (
      (F_X8_settle sh f S t).bind fun y1 =>
      some (y1.1, y1.2)
    ) else (
      (sR S t 10).bind fun b2 =>
      if ckX0 sh b2 = true then (
        (F_X5_fill sh f S (t + 13) b2 (t + 47) l4).bind fun y3 =>
        if y3.1 = 0 then (
          some ((3 : Int32), y3.2)
        ) else (
          (F_X7_clear sh f y3.2 (t + 53)).bind fun y4 =>
          (sR y4 (t + 13) 2).bind fun b5 =>
          if ckX3 sh b5 = true then (
            (sR y4 t 10).bind fun b6 =>
            if ckX0 sh b6 = true then (
              (F_X7_addWorths sh f y4 (t + 53) b5 b6 (t + 47) (t + 59) 3 (0 : Int32) (-1 : Int32)).bind fun y7 =>
              (sR y7 t 10).bind fun b8 =>
              if ckX0 sh b8 = true then (
                (F_X5_fill sh f y7 (t + 13) b8 (t + 50) (p3 - l4)).bind fun y9 =>
                if y9.1 = 0 then (
                  some ((3 : Int32), y9.2)
                ) else (
                  (F_X7_clear sh f y9.2 (t + 56)).bind fun y10 =>
                  (sR y10 (t + 13) 2).bind fun b11 =>
                  if ckX3 sh b11 = true then (
                    (sR y10 t 10).bind fun b12 =>
                    if ckX0 sh b12 = true then (
                      (F_X7_addWorths sh f y10 (t + 56) b11 b12 (t + 50) (t + 59) 3 (0 : Int32) (-1 : Int32)).bind fun y13 =>
                      (sR y13 t 13).bind fun b14 =>
                      if ckX7 sh b14 = true then (
                        (F_X7_addProduct sh f y13 b14 (t + 53) (t + 56)).bind fun y15 =>
                        bnd (l4 + (1 : Int32)) fun x16 =>
                        F_X8_reckonParts_L74 sh f t p1 p2 p3 n y15 x16
                      ) else none
                    ) else none
                  ) else none
                )
              ) else none
            ) else none
          ) else none
        )
      ) else none
    )
def F_X8_reckonParts (sh : List Sh) (f : Nat) (S : St) (t : Nat) (p1 : Int32) (p2 : Int32) (p3 : Int32) : Option (Int32 × St) :=
  (F_X8_splitEnds sh f S t p1 p2).bind fun y1 =>
  (sR y1 t 10).bind fun b2 =>
  if ckX0 sh b2 = true then (
    (F_X1_isBalanced sh f y1 (t + 44) b2).bind fun y3 =>
    if y3 = 0 then (
      some ((7 : Int32), y1)
    ) else (
      (sR y1 t 10).bind fun b4 =>
      if ckX0 sh b4 = true then (
        (F_X1_isBalanced sh f y1 (t + 47) b4).bind fun y5 =>
        if y5 = 0 then (
          some ((7 : Int32), y1)
        ) else (
          (sR y1 t 10).bind fun b6 =>
          if ckX0 sh b6 = true then (
            (F_X1_isBalanced sh f y1 (t + 50) b6).bind fun y7 =>
            if y7 = 0 then (
              some ((7 : Int32), y1)
            ) else (
              (F_X1_total sh f y1 (t + 44)).bind fun y8 =>
              if y8 = 0 then (
                (sR y1 t 13).bind fun b9 =>
                if ckX7 sh b9 = true then (
                  (F_X7_clear sh f y1 b9).bind fun y10 =>
                  F_X8_reckonParts_L74 sh f t p1 p2 p3 f y10 (1 : Int32)
                ) else none
              ) else (
                some ((8 : Int32), y1)
              )
            )
          ) else none
        )
      ) else none
    )
  ) else none
def F_X8_parted (sh : List Sh) (f : Nat) (S : St) (t : Nat) (p1 : Int32) (p2 : Int32) (p3 : Int32) : Option (Int32 × St) :=
  (F_X8_cutRefusal sh f S t p1 p2 p3).bind fun y1 =>
  if y1 = 0 then (
    (F_X8_reckonParts sh f S t p1 p2 p3).bind fun y3 =>
    bnd y3.1 fun x4 =>
    (F_X8_allowed sh f y3.2 t x4).bind fun y5 =>
    if ¬ (y5.1 = 0 ∨ y5.1 = 1) then none else
    some (y5.1, y5.2)
  ) else (
    (F_X8_allowed sh f S t y1).bind fun y2 =>
    if ¬ (y2.1 = 0 ∨ y2.1 = 1) then none else
    some (y2.1, y2.2)
  )
def F_X8_whole (sh : List Sh) (f : Nat) (S : St) (t : Nat) (p1 : Int32) (p2 : Int32) (p3 : Int32) : Option (Int32 × St) :=
  (F_X8_cutRefusal sh f S t p1 p2 p3).bind fun y1 =>
  if y1 = 0 then (
    (sR S t 10).bind fun b3 =>
    if ckX0 sh b3 = true then (
      (F_X0_ofKind sh f S b3 p2 (0 : Int32)).bind fun y4 =>
      (F_X8_reckonWhole sh f S t p3 p1 y4).bind fun y5 =>
      bnd y5.1 fun x6 =>
      (F_X8_allowed sh f y5.2 t x6).bind fun y7 =>
      if ¬ (y7.1 = 0 ∨ y7.1 = 1) then none else
      some (y7.1, y7.2)
    ) else none
  ) else (
    (F_X8_allowed sh f S t y1).bind fun y2 =>
    if ¬ (y2.1 = 0 ∨ y2.1 = 1) then none else
    some (y2.1, y2.2)
  )
def F_X8_worth (sh : List Sh) (f : Nat) (S : St) (t : Nat) (p1 : Int32) : Option (Int64) :=
  if (sI S t 15) = 0 then (
    some (-9223372036854775808 : Int64)
  ) else (
    if p1 = 0 then (
      (sR S t 12).bind fun b1 =>
      if ckX7 sh b1 = true then (
        some (sJ S b1 4)
      ) else none
    ) else (
      (sR S t 12).bind fun b2 =>
      if ckX7 sh b2 = true then (
        some (sJ S b2 5)
      ) else none
    )
  )
def F_X8_rest (sh : List Sh) (f : Nat) (S : St) (t : Nat) (p1 : Int32) : Option (Int32) :=
  if (sI S t 15) = 0 then (
    some (-1 : Int32)
  ) else (
    (sR S t 12).bind fun b1 =>
    if ckX7 sh b1 = true then (
      (F_X7_restBy sh f S b1 p1).bind fun y2 =>
      some y2
    ) else none
  )
def F_X8_pole (sh : List Sh) (f : Nat) (S : St) (t : Nat) : Option (Int32) :=
  if (sI S t 16) = (5 : Int32) then (
    some (sI S t 17)
  ) else (
    some (-1 : Int32)
  )
def F_X8_count (sh : List Sh) (f : Nat) (S : St) (t : Nat) (p1 : Int32) : Option (Int32) :=
  if p1 = (0 : Int32) then (
    (sR S t 10).bind fun b1 =>
    if ckX0 sh b1 = true then (
      some (sI S b1 9)
    ) else none
  ) else (
  if p1 = (1 : Int32) then (
    (sR S t 10).bind fun b2 =>
    if ckX0 sh b2 = true then (
      some (sI S b2 10)
    ) else none
  ) else (
  if p1 = (2 : Int32) then (
    some (sI S (t + 44) 2)
  ) else (
  if p1 = (3 : Int32) then (
    if (sI S t 14) = 0 then (
      some (0 : Int32)
    ) else (
      (sR S t 11).bind fun b3 =>
      if ckX3 sh b3 = true then (
        some (sI S b3 17)
      ) else none
    )
  ) else (
  if p1 = (4 : Int32) then (
    if (sI S t 14) = 0 then (
      some (0 : Int32)
    ) else (
      (sR S t 11).bind fun b4 =>
      if ckX3 sh b4 = true then (
        some (sI S b4 16)
      ) else none
    )
  ) else (
  if p1 = (5 : Int32) then (
    if (sI S t 14) = 0 then (
      some (0 : Int32)
    ) else (
      (sR S t 11).bind fun b5 =>
      if ckX3 sh b5 = true then (
        (F_X3_withoutLoops sh f S b5).bind fun y6 =>
        some y6
      ) else none
    )
  ) else (
  if p1 = (6 : Int32) then (
    if (sI S t 14) = 0 then (
      some (0 : Int32)
    ) else (
      (sR S t 11).bind fun b7 =>
      if ckX3 sh b7 = true then (
        (F_X3_withoutCuts sh f S b7).bind fun y8 =>
        some y8
      ) else none
    )
  ) else (
  if p1 = (7 : Int32) then (
    some (sI S (t + 1) 1)
  ) else (
    some (-1 : Int32)
  )
  )
  )
  )
  )
  )
  )
  )
def F_X8_trouble (sh : List Sh) (f : Nat) (S : St) (t : Nat) : Option (Int32) :=
  some (sI S t 16)
def F_X9_kindOf_L2 (sh : List Sh) (f : Nat) (S : St) (t : Nat) (p1 : Int64) : Nat → Int32 → Option (Int32)
  | 0, _ => none
  | n + 1, l3 =>
    if (sI S t 0) ≤ l3 then (
      some (-1 : Int32)
    ) else (
      if l3 < 0 ∨ 8 ≤ l3.toNatClampNeg then none else
      if (lg_cmp (sL S (t + 1) l3.toNatClampNeg) p1) = 0 then (
        some l3
      ) else (
        bnd (l3 + (1 : Int32)) fun x1 =>
        F_X9_kindOf_L2 sh f S t p1 n x1
      )
    )
def F_X9_kindOf (sh : List Sh) (f : Nat) (S : St) (t : Nat) (p1 : Int64) : Option (Int32) :=
  F_X9_kindOf_L2 sh f S t p1 f (0 : Int32)
