def F_X8_orderRefusal (sh : List Sh) (f : Nat) (S : St) (t : Nat) (p1 : Int32) : Option (Int32) :=
  if (sI S (t + 44) 2) = 0 then (
    some (1 : Int32)
  ) else (
    if p1 < (1 : Int32) then (
      some (2 : Int32)
    ) else (
      if p1 ≤ (3 : Int32) then (
        some (0 : Int32)
      ) else (
        some (2 : Int32)
      )
    )
  )
def F_X8_drawings (sh : List Sh) (f : Nat) (S : St) (t : Nat) (p1 : Int32) : Option (Int32 × St) :=
  (F_X8_orderRefusal sh f S t p1).bind fun y1 =>
  if y1 = 0 then (
    (sR S t 10).bind fun b2 =>
    if ckX0 sh b2 = true then (
      (F_X1_isBalanced sh f S (t + 44) b2).bind fun y3 =>
      if y3 = 0 then (
        (F_X8_refused sh f S t (7 : Int32)).bind fun y14 =>
        some (y14.1, y14.2)
      ) else (
        (sR S t 10).bind fun b4 =>
        if ckX0 sh b4 = true then (
          (F_X5_fill sh f S (t + 13) b4 (t + 44) p1).bind fun y5 =>
          if y5.1 = 0 then (
            (F_X8_refused sh f y5.2 t (3 : Int32)).bind fun y13 =>
            some (y13.1, y13.2)
          ) else (
            (sR y5.2 t 11).bind fun b6 =>
            if ckX3 sh b6 = true then (
              (sR y5.2 (t + 13) 2).bind fun b7 =>
              if ckX3 sh b7 = true then (
                bnd (uR y5.2 t 11 (some b7)) fun S8 =>
                bnd (uR S8 (t + 13) 2 (some b6)) fun S9 =>
                bnd (uI S9 t 14 (1 : Int32)) fun S10 =>
                bnd (uI S10 t 16 (0 : Int32)) fun S11 =>
                (sR S11 t 11).bind fun b12 =>
                if ckX3 sh b12 = true then (
                  some ((sI S11 b12 17), S11)
                ) else none
              ) else none
            ) else none
          )
        ) else none
      )
    ) else none
  ) else (
    (F_X8_refused sh f S t y1).bind fun y15 =>
    some (y15.1, y15.2)
  )
def F_X8_isListed (sh : List Sh) (f : Nat) (S : St) (t : Nat) (p1 : Int32) : Option (Int32) :=
  if (sI S t 14) = 0 then (
    some (0 : Int32)
  ) else (
    if p1 < 0 then (
      some (0 : Int32)
    ) else (
      (sR S t 11).bind fun b1 =>
      if ckX3 sh b1 = true then (
        if (sI S b1 17) ≤ p1 then (
          some (0 : Int32)
        ) else (
          some (1 : Int32)
        )
      ) else none
    )
  )
def F_X8_drawing (sh : List Sh) (f : Nat) (S : St) (t : Nat) (p1 : Int32) (p2 : Int32) : Option (Int32) :=
  (F_X8_isListed sh f S t p1).bind fun y1 =>
  if y1 = 0 then (
    some (-2147483648 : Int32)
  ) else (
    (sR S t 11).bind fun b2 =>
    if ckX3 sh b2 = true then (
      (F_X3_ofDrawing sh f S b2 p1 p2).bind fun y3 =>
      some y3
    ) else none
  )
def F_X8_point (sh : List Sh) (f : Nat) (S : St) (t : Nat) (p1 : Int32) (p2 : Int32) : Option (Int32) :=
  (F_X8_isListed sh f S t p1).bind fun y1 =>
  if y1 = 0 then (
    some (-1 : Int32)
  ) else (
    (sR S t 11).bind fun b2 =>
    if ckX3 sh b2 = true then (
      (F_X3_ruleOf sh f S b2 p1 p2).bind fun y3 =>
      some y3
    ) else none
  )
def F_X8_joined (sh : List Sh) (f : Nat) (S : St) (t : Nat) (p1 : Int32) (p2 : Int32) : Option (Int32) :=
  (F_X8_isListed sh f S t p1).bind fun y1 =>
  if y1 = 0 then (
    some (-1 : Int32)
  ) else (
    (sR S t 11).bind fun b2 =>
    if ckX3 sh b2 = true then (
      (F_X3_partnerOf sh f S b2 p1 p2).bind fun y3 =>
      some y3
    ) else none
  )
def F_X8_pairings (sh : List Sh) (f : Nat) (S : St) (t : Nat) : Option (Int32) :=
  if (sI S t 14) = 0 then (
    some (-1 : Int32)
  ) else (
    (sR S t 11).bind fun b1 =>
    if ckX3 sh b1 = true then (
      (F_X3_allWays sh f S b1).bind fun y2 =>
      some y2
    ) else none
  )
def F_X8_packPair (sh : List Sh) (f : Nat) (S : St) (p0 : Int32) (p1 : Int32) (p2 : Int32) (p3 : Int64) : Option (Int64) :=
  if p2 ≤ p1 then (
    some p3
  ) else (
    if 0 ≤ (lg_cmp p3 (0 : Int64)) then (
      (F_J9_floorDiv_7cf53 sh f S p0 (100 : Int32)).bind fun y1 =>
      (F_J9_floorMod_7cf53 sh f S p0 (100 : Int32)).bind fun y2 =>
      if y1 < 0 then (
        some (-1 : Int64)
      ) else (
        if p2 ≤ y1 then (
          some (-1 : Int64)
        ) else (
          if y2 < p2 then (
            (F_X4_inRow sh f S p1 y1).bind fun y3 =>
            (F_X4_inRow sh f S (p1 + (1 : Int32)) y2).bind fun y4 =>
            some ((p3 ||| y3) ||| y4)
          ) else (
            some (-1 : Int64)
          )
        )
      )
    ) else (
      some p3
    )
  )
def F_X8_same (sh : List Sh) (f : Nat) (S : St) (t : Nat) (p1 : Int32) (p2 : Int32) (p3 : Int32) (p4 : Int32) (p5 : Int32) (p6 : Int32) (p7 : Int32) : Option (Int32 × St) :=
  (F_X8_isListed sh f S t p1).bind fun y1 =>
  if y1 = 0 then (
    some ((-1 : Int32), S)
  ) else (
    (sR S t 11).bind fun b2 =>
    if ckX3 sh b2 = true then (
      (F_X3_legsOf sh f S b2 p1).bind fun y3 =>
      (F_X8_packPair sh f S p2 (0 : Int32) y3 (0 : Int64)).bind fun y4 =>
      (F_X8_packPair sh f S p3 (2 : Int32) y3 y4).bind fun y5 =>
      (F_X8_packPair sh f S p4 (4 : Int32) y3 y5).bind fun y6 =>
      (F_X8_packPair sh f S p5 (6 : Int32) y3 y6).bind fun y7 =>
      (F_X8_packPair sh f S p6 (8 : Int32) y3 y7).bind fun y8 =>
      (F_X8_packPair sh f S p7 (10 : Int32) y3 y8).bind fun y9 =>
      if 0 ≤ (lg_cmp y9 (0 : Int64)) then (
        (sR S t 10).bind fun b10 =>
        if ckX0 sh b10 = true then (
          (sR S t 11).bind fun b11 =>
          if ckX3 sh b11 = true then (
            (sR S t 11).bind fun b12 =>
            if ckX3 sh b12 = true then (
              (F_X3_codeOf sh f S b12 p1).bind fun y13 =>
              (F_X5_leastOf sh f S (t + 13) b10 (t + 44) (sI S b11 16) y13 y9).bind fun y14 =>
              bnd y14.1 fun x15 =>
              if 0 ≤ (lg_cmp x15 (0 : Int64)) then (
                (sR y14.2 t 11).bind fun b16 =>
                if ckX3 sh b16 = true then (
                  (sR y14.2 t 11).bind fun b17 =>
                  if ckX3 sh b17 = true then (
                    (F_X3_groupOf sh f y14.2 b17 p1).bind fun y18 =>
                    (F_X3_find sh f y14.2 b16 y18 x15).bind fun y19 =>
                    some (y19, y14.2)
                  ) else none
                ) else none
              ) else (
                some ((-2 : Int32), y14.2)
              )
            ) else none
          ) else none
        ) else none
      ) else (
        some ((-2 : Int32), S)
      )
    ) else none
  )
def F_X8_hasPowers (sh : List Sh) (f : Nat) (S : St) (t : Nat) (p1 : Int32) (p2 : Int32) (p3 : Int32) : Option (Int32) :=
  if (sI S t 14) = 0 then (
    some (0 : Int32)
  ) else (
    if p1 < 0 then (
      some (0 : Int32)
    ) else (
      if p2 < 0 then (
        some (0 : Int32)
      ) else (
        if p3 < 0 then (
          some (0 : Int32)
        ) else (
          (sR S t 11).bind fun b1 =>
          if ckX3 sh b1 = true then (
            if (lg_cmp ((p1.toInt64 + p2.toInt64) + p3.toInt64) ((sI S b1 16).toInt64)) = 0 then (
              some (1 : Int32)
            ) else (
              some (0 : Int32)
            )
          ) else none
        )
      )
    )
  )
def F_X8_powersCode (sh : List Sh) (f : Nat) (S : St) (p0 : Int32) (p1 : Int32) (p2 : Int32) : Option (Int32) :=
  some (((p0 <<< ((4 : Int32) &&& 31)) + (p1 <<< ((2 : Int32) &&& 31))) + p2)
def F_X8_exactly_L114 (sh : List Sh) (f : Nat) (t : Nat) (p1 : Int32) (p2 : Int32) (p3 : Int32) (k61 : St → Int32 → Option (Int64 × St)) : St → Int32 → Int64 → Option (Int64 × St) := fun S l4 v0 =>
  (sR S t 11).bind fun b1 =>
  if ckX3 sh b1 = true then (
    if l4 < 0 ∨ 20 ≤ l4.toNatClampNeg then none else
    (sR S t 11).bind fun b2 =>
    if ckX3 sh b2 = true then (
      (F_X3_divisor sh f S b2 l4).bind fun y3 =>
      (F_X2_add sh f S (t + 40) (v0 * ((sA S (b1 + 13) l4.toNatClampNeg).toInt64)) y3).bind fun y4 =>
      bnd (l4 + (1 : Int32)) fun x5 =>
      k61 y4 x5
    ) else none
  ) else none
def F_X8_exactly_L61 (sh : List Sh) (f : Nat) (t : Nat) (p1 : Int32) (p2 : Int32) (p3 : Int32) : Nat → St → Int32 → Option (Int64 × St)
  | 0, _, _ => none
  | n + 1, S, l4 =>
    (sR S t 11).bind fun b1 =>
    if ckX3 sh b1 = true then (
      if (sI S b1 18) ≤ l4 then (
        (F_X2_reduce sh f S (t + 40)).bind fun y2 =>
        if (sI y2 (t + 40) 3) = 0 then (
          some ((-9223372036854775808 : Int64), y2)
        ) else (
          if p3 = 0 then (
            some ((sJ y2 (t + 40) 4), y2)
          ) else (
            some ((sJ y2 (t + 40) 5), y2)
          )
        )
      ) else (
        (sR S t 11).bind fun b3 =>
        if ckX3 sh b3 = true then (
          if l4 < 0 ∨ 20 ≤ l4.toNatClampNeg then none else
          if (sA S (b3 + 14) l4.toNatClampNeg) = p1 then (
            if p2 = 0 then (
              (sR S t 11).bind fun b5 =>
              if ckX3 sh b5 = true then (
                (F_X3_signedWays sh f S b5 l4).bind fun y6 =>
                F_X8_exactly_L114 sh f t p1 p2 p3 (F_X8_exactly_L61 sh f t p1 p2 p3 n) S l4 y6
              ) else none
            ) else (
              (sR S t 11).bind fun b7 =>
              if ckX3 sh b7 = true then (
                if l4 < 0 ∨ 20 ≤ l4.toNatClampNeg then none else
                F_X8_exactly_L114 sh f t p1 p2 p3 (F_X8_exactly_L61 sh f t p1 p2 p3 n) S l4 ((sA S (b7 + 15) l4.toNatClampNeg).toInt64)
              ) else none
            )
          ) else (
            bnd (l4 + (1 : Int32)) fun x4 =>
            F_X8_exactly_L61 sh f t p1 p2 p3 n S x4
          )
        ) else none
      )
    ) else none
def F_X8_exactly_L10 (sh : List Sh) (f : Nat) (t : Nat) (p1 : Int32) (p2 : Int32) (p3 : Int32) : Nat → St → Int32 → Option (Int64 × St)
  | 0, _, _ => none
  | n + 1, S, l4 =>
    (sR S t 11).bind fun b1 =>
    if ckX3 sh b1 = true then (
      if (sI S b1 18) ≤ l4 then (
        F_X8_exactly_L61 sh f t p1 p2 p3 f S (0 : Int32)
      ) else (
        (sR S t 11).bind fun b2 =>
        if ckX3 sh b2 = true then (
          if l4 < 0 ∨ 20 ≤ l4.toNatClampNeg then none else
          if (sA S (b2 + 14) l4.toNatClampNeg) = p1 then (
            (sR S t 11).bind fun b4 =>
            if ckX3 sh b4 = true then (
              (F_X3_divisor sh f S b4 l4).bind fun y5 =>
              (F_X2_widen sh f S (t + 40) y5).bind fun y6 =>
              bnd (l4 + (1 : Int32)) fun x7 =>
              F_X8_exactly_L10 sh f t p1 p2 p3 n y6 x7
            ) else none
          ) else (
            bnd (l4 + (1 : Int32)) fun x3 =>
            F_X8_exactly_L10 sh f t p1 p2 p3 n S x3
          )
        ) else none
      )
    ) else none
def F_X8_exactly (sh : List Sh) (f : Nat) (S : St) (t : Nat) (p1 : Int32) (p2 : Int32) (p3 : Int32) : Option (Int64 × St) :=
  (F_X2_clear sh f S (t + 40)).bind fun y1 =>
  F_X8_exactly_L10 sh f t p1 p2 p3 f y1 (0 : Int32)
def F_X8_sum (sh : List Sh) (f : Nat) (S : St) (t : Nat) (p1 : Int32) (p2 : Int32) (p3 : Int32) (p4 : Int32) : Option (Int64 × St) :=
  (F_X8_hasPowers sh f S t p1 p2 p3).bind fun y1 =>
  if y1 = 0 then (
    some ((-9223372036854775808 : Int64), S)
  ) else (
    (F_X8_powersCode sh f S p1 p2 p3).bind fun y2 =>
    (F_X8_exactly sh f S t y2 (0 : Int32) p4).bind fun y3 =>
    some (y3.1, y3.2)
  )
def F_X8_byPairings (sh : List Sh) (f : Nat) (S : St) (t : Nat) (p1 : Int32) (p2 : Int32) (p3 : Int32) (p4 : Int32) : Option (Int64 × St) :=
  (F_X8_hasPowers sh f S t p1 p2 p3).bind fun y1 =>
  if y1 = 0 then (
    some ((-9223372036854775808 : Int64), S)
  ) else (
    (sR S t 10).bind fun b2 =>
    if ckX0 sh b2 = true then (
      (sR S t 11).bind fun b3 =>
      if ckX3 sh b3 = true then (
        (F_X8_powersCode sh f S p1 p2 p3).bind fun y4 =>
        (F_X5_walkAll sh f S (t + 13) b2 (t + 44) b3 y4).bind fun y5 =>
        (F_X8_powersCode sh f y5 p1 p2 p3).bind fun y6 =>
        (F_X8_exactly sh f y5 t y6 (1 : Int32) p4).bind fun y7 =>
        some (y7.1, y7.2)
      ) else none
    ) else none
  )
def F_X8_allowed (sh : List Sh) (f : Nat) (S : St) (t : Nat) (p1 : Int32) : Option (Int32 × St) :=
  bnd (uI S t 16 p1) fun S1 =>
  if p1 = 0 then (
    some ((1 : Int32), S1)
  ) else (
    some ((0 : Int32), S1)
  )
def F_X8_number (sh : List Sh) (f : Nat) (S : St) (t : Nat) (p1 : Int32) (p2 : Int32) : Option (Int32 × St) :=
  if p1 < 0 then (
    (F_X8_allowed sh f S t (1 : Int32)).bind fun y1 =>
    if ¬ (y1.1 = 0 ∨ y1.1 = 1) then none else
    some (y1.1, y1.2)
  ) else (
    if p1 < (sI S (t + 44) 2) then (
      if p2 < (-999 : Int32) then (
        (F_X8_allowed sh f S t (2 : Int32)).bind fun y2 =>
        if ¬ (y2.1 = 0 ∨ y2.1 = 1) then none else
        some (y2.1, y2.2)
      ) else (
        if p2 ≤ (999 : Int32) then (
          if p1 < 0 ∨ 6 ≤ p1.toNatClampNeg then none else
          bnd (uA S ((t + 44) + 2) p1.toNatClampNeg p2) fun S3 =>
          (F_X8_allowed sh f S3 t (0 : Int32)).bind fun y4 =>
          if ¬ (y4.1 = 0 ∨ y4.1 = 1) then none else
          some (y4.1, y4.2)
        ) else (
          (F_X8_allowed sh f S t (2 : Int32)).bind fun y5 =>
          if ¬ (y5.1 = 0 ∨ y5.1 = 1) then none else
          some (y5.1, y5.2)
        )
      )
    ) else (
      (F_X8_allowed sh f S t (1 : Int32)).bind fun y6 =>
      if ¬ (y6.1 = 0 ∨ y6.1 = 1) then none else
      some (y6.1, y6.2)
    )
  )
def F_X8_letter (sh : List Sh) (f : Nat) (S : St) (t : Nat) (p1 : Int32) (p2 : Int32) : Option (Int32 × St) :=
  (sR S t 10).bind fun b1 =>
  if ckX0 sh b1 = true then (
    (F_X0_isTold sh f S b1).bind fun y2 =>
    if y2 = 0 then (
      (F_X8_allowed sh f S t (1 : Int32)).bind fun y3 =>
      if ¬ (y3.1 = 0 ∨ y3.1 = 1) then none else
      some (y3.1, y3.2)
    ) else (
      if p1 < 0 then (
        (F_X8_allowed sh f S t (1 : Int32)).bind fun y4 =>
        if ¬ (y4.1 = 0 ∨ y4.1 = 1) then none else
        some (y4.1, y4.2)
      ) else (
        if p1 < (3 : Int32) then (
          if p2 < (-99 : Int32) then (
            (F_X8_allowed sh f S t (2 : Int32)).bind fun y5 =>
            if ¬ (y5.1 = 0 ∨ y5.1 = 1) then none else
            some (y5.1, y5.2)
          ) else (
            if p2 ≤ (99 : Int32) then (
              if p1 < 0 ∨ 3 ≤ p1.toNatClampNeg then none else
              bnd (uA S (t + 59) p1.toNatClampNeg p2) fun S6 =>
              (F_X8_allowed sh f S6 t (0 : Int32)).bind fun y7 =>
              if ¬ (y7.1 = 0 ∨ y7.1 = 1) then none else
              some (y7.1, y7.2)
            ) else (
              (F_X8_allowed sh f S t (2 : Int32)).bind fun y8 =>
              if ¬ (y8.1 = 0 ∨ y8.1 = 1) then none else
              some (y8.1, y8.2)
            )
          )
        ) else (
          (F_X8_allowed sh f S t (1 : Int32)).bind fun y9 =>
          if ¬ (y9.1 = 0 ∨ y9.1 = 1) then none else
          some (y9.1, y9.2)
        )
      )
    )
  ) else none
def F_X8_settle (sh : List Sh) (f : Nat) (S : St) (t : Nat) : Option (Int32 × St) :=
  (sR S t 13).bind fun b1 =>
  if ckX7 sh b1 = true then (
    if (sI S b1 2) = (-1 : Int32) then (
      (sR S t 13).bind fun b2 =>
      if ckX7 sh b2 = true then (
        (F_X7_findFraction sh f S b2).bind fun y3 =>
        if y3.1 = 0 then (
          some ((6 : Int32), y3.2)
        ) else (
          (sR y3.2 t 12).bind fun b4 =>
          if ckX7 sh b4 = true then (
            (sR y3.2 t 13).bind fun b5 =>
            if ckX7 sh b5 = true then (
              bnd (uR y3.2 t 12 (some b5)) fun S6 =>
              bnd (uR S6 t 13 (some b4)) fun S7 =>
              bnd (uI S7 t 15 (1 : Int32)) fun S8 =>
              some ((0 : Int32), S8)
            ) else none
          ) else none
        )
      ) else none
    ) else (
      (sR S t 13).bind fun b9 =>
      if ckX7 sh b9 = true then (
        bnd (uI S t 17 (sI S b9 2)) fun S10 =>
        some ((5 : Int32), S10)
      ) else none
    )
  ) else none
def F_X8_reckonWhole_L81 (sh : List Sh) (f : Nat) (t : Nat) (p1 : Int32) (p2 : Int32) (p3 : Int32) : St → Int32 → Option (Int32 × St) := fun S l4 =>
  (sR S t 13).bind fun b1 =>
  if ckX7 sh b1 = true then (
    (F_X7_clear sh f S b1).bind fun y2 =>
    (sR y2 t 13).bind fun b3 =>
    if ckX7 sh b3 = true then (
      if l4 = 0 then (
        (sR y2 (t + 13) 2).bind fun b4 =>
        if ckX3 sh b4 = true then (
          (sR y2 t 10).bind fun b5 =>
          if ckX0 sh b5 = true then (
            (F_X7_addWorths sh f y2 b3 b4 b5 (t + 44) (t + 59) 3 p2 p3).bind fun y6 =>
            (F_X8_settle sh f y6 t).bind fun y7 =>
            some (y7.1, y7.2)
          ) else none
        ) else none
      ) else (
        (sR y2 t 11).bind fun b8 =>
        if ckX3 sh b8 = true then (
          (sR y2 t 10).bind fun b9 =>
          if ckX0 sh b9 = true then (
            (F_X7_addWorths sh f y2 b3 b8 b9 (t + 44) (t + 59) 3 p2 p3).bind fun y10 =>
            (F_X8_settle sh f y10 t).bind fun y11 =>
            some (y11.1, y11.2)
          ) else none
        ) else none
      )
    ) else none
  ) else none
def F_X8_reckonWhole_L53 (sh : List Sh) (f : Nat) (t : Nat) (p1 : Int32) (p2 : Int32) (p3 : Int32) : St → Int32 → Option (Int32 × St) := fun S v0 =>
  if v0 = 0 then (
    (sR S t 10).bind fun b1 =>
    if ckX0 sh b1 = true then (
      (F_X5_fill sh f S (t + 13) b1 (t + 44) p1).bind fun y2 =>
      if y2.1 = 0 then (
        some ((3 : Int32), y2.2)
      ) else (
        F_X8_reckonWhole_L81 sh f t p1 p2 p3 y2.2 v0
      )
    ) else none
  ) else (
    F_X8_reckonWhole_L81 sh f t p1 p2 p3 S v0
  )
def F_X8_reckonWhole_L52 (sh : List Sh) (f : Nat) (t : Nat) (p1 : Int32) (p2 : Int32) (p3 : Int32) : St → Option (Int32 × St) := fun S =>
  F_X8_reckonWhole_L53 sh f t p1 p2 p3 S (0 : Int32)
def F_X8_reckonWhole (sh : List Sh) (f : Nat) (S : St) (t : Nat) (p1 : Int32) (p2 : Int32) (p3 : Int32) : Option (Int32 × St) :=
  (sR S t 10).bind fun b1 =>
  if ckX0 sh b1 = true then (
    (F_X1_isBalanced sh f S (t + 44) b1).bind fun y2 =>
    if y2 = 0 then (
      some ((7 : Int32), S)
    ) else (
      (F_X1_total sh f S (t + 44)).bind fun y3 =>
      if y3 = 0 then (
        if (sI S t 14) = 0 then (
          F_X8_reckonWhole_L52 sh f t p1 p2 p3 S
        ) else (
          (sR S t 11).bind fun b4 =>
          if ckX3 sh b4 = true then (
            if (sI S b4 16) = p1 then (
              F_X8_reckonWhole_L53 sh f t p1 p2 p3 S (1 : Int32)
            ) else (
              F_X8_reckonWhole_L52 sh f t p1 p2 p3 S
            )
          ) else none
        )
      ) else (
        some ((8 : Int32), S)
      )
    )
  ) else none
