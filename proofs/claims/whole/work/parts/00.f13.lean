def F_X5_fill_L18 (sh : List Sh) (f : Nat) (t : Nat) (p1 : Nat) (p2 : Nat) (p3 : Int32) : Nat → St → Int32 → Int32 → Option (Int32 × St)
  | 0, _, _, _ => none
  | n + 1, S, l4, l5 =>
    if l4 ≤ l5 then (
      (sR S t 2).bind fun b1 =>
      if ckX3 sh b1 = true then (
        if (sI S b1 19) = 0 then (
          some ((1 : Int32), S)
        ) else (
          some ((0 : Int32), S)
        )
      ) else none
    ) else (
      (sR S t 2).bind fun b2 =>
      if ckX3 sh b2 = true then (
        if (sI S b2 19) = 0 then (
          (F_X4_lay sh f S (t + 1) p1 p2 p3 l5).bind fun y4 =>
          if y4.1 = 0 then (
            bnd (l5 + (1 : Int32)) fun x5 =>
            F_X5_fill_L18 sh f t p1 p2 p3 n y4.2 l4 x5
          ) else (
            (sR y4.2 t 2).bind fun b6 =>
            if ckX3 sh b6 = true then (
              (F_X3_openGroup sh f y4.2 b6 p1 (t + 1) l5).bind fun y7 =>
              if y7.1 = 0 then (
                bnd (l5 + (1 : Int32)) fun x8 =>
                F_X5_fill_L18 sh f t p1 p2 p3 n y7.2 l4 x8
              ) else (
                (F_X4_allLegs sh f y7.2 (t + 1)).bind fun y9 =>
                (F_X5_draw sh f 10 y7.2 t p1 y9 (0 : Int32) (0 : Int64) (1 : Int32) (0 : Int32)).bind fun y10 =>
                bnd (l5 + (1 : Int32)) fun x11 =>
                F_X5_fill_L18 sh f t p1 p2 p3 n y10 l4 x11
              )
            ) else none
          )
        ) else (
          (sR S t 2).bind fun b3 =>
          if ckX3 sh b3 = true then (
            if (sI S b3 19) = 0 then (
              some ((1 : Int32), S)
            ) else (
              some ((0 : Int32), S)
            )
          ) else none
        )
      ) else none
    )
def F_X5_fill (sh : List Sh) (f : Nat) (S : St) (t : Nat) (p1 : Nat) (p2 : Nat) (p3 : Int32) : Option (Int32 × St) :=
  (sR S t 2).bind fun b1 =>
  if ckX3 sh b1 = true then (
    (F_X3_clear sh f S b1 p3).bind fun y2 =>
    bnd ((1 : Int32) <<< (((2 : Int32) * p3) &&& 31)) fun x3 =>
    F_X5_fill_L18 sh f t p1 p2 p3 f y2 x3 (0 : Int32)
  ) else none
def F_X5_leastOf_L38 (sh : List Sh) (f : Nat) (t : Nat) (p1 : Nat) (p2 : Nat) (p3 : Int32) (p4 : Int32) (p5 : Int64) : Nat → St → Int64 → Int32 → Option (Int64 × St)
  | 0, _, _, _ => none
  | n + 1, S, l7, l9 =>
    if (6 : Int32) ≤ l9 then (
      some (l7, S)
    ) else (
      (F_X4_keepsRules sh f S (t + 1) l9).bind fun y1 =>
      if y1 = 0 then (
        bnd (l9 + (1 : Int32)) fun x2 =>
        F_X5_leastOf_L38 sh f t p1 p2 p3 p4 p5 n S l7 x2
      ) else (
        (F_X5_tally sh f S t p5 l9).bind fun y3 =>
        (F_X5_leastTallied sh f y3.2 t).bind fun y4 =>
        (F_J9_min_f86c9 sh f y4.2 l7 y4.1).bind fun y5 =>
        bnd (l9 + (1 : Int32)) fun x6 =>
        F_X5_leastOf_L38 sh f t p1 p2 p3 p4 p5 n y4.2 y5 x6
      )
    )
def F_X5_leastOf (sh : List Sh) (f : Nat) (S : St) (t : Nat) (p1 : Nat) (p2 : Nat) (p3 : Int32) (p4 : Int32) (p5 : Int64) : Option (Int64 × St) :=
  (F_X4_lay sh f S (t + 1) p1 p2 p3 p4).bind fun y1 =>
  if y1.1 = 0 then (
    some ((-1 : Int64), y1.2)
  ) else (
    (F_X4_isPairing sh f y1.2 (t + 1) p5).bind fun y2 =>
    if y2 = 0 then (
      some ((-1 : Int64), y1.2)
    ) else (
      F_X5_leastOf_L38 sh f t p1 p2 p3 p4 p5 f y1.2 p5 (0 : Int32)
    )
  )
def F_X5_walk_L51 (sh : List Sh) (f : Nat) (S : St) (t : Nat) (p1 : Int32) (p2 : Int32) (p3 : Int32) (kR : Nat → Int32 → Int32 → Int32 → Option (Int32)) : Nat → Int32 → Int32 → Int32 → Int32 → Option (Int32)
  | 0, _, _, _, _ => none
  | n + 1, l4, l5, l6, l7 =>
    if (sI S (t + 1) 9) ≤ l7 then (
      some l6
    ) else (
      (F_X4_mayJoin sh f S (t + 1) l4 l7 l5).bind fun y1 =>
      if y1 = 0 then (
        bnd (l7 + (1 : Int32)) fun x2 =>
        F_X5_walk_L51 sh f S t p1 p2 p3 kR n l4 l5 l6 x2
      ) else (
        (F_X4_signOf sh f S (t + 1) l4 l7 l5).bind fun y3 =>
        (F_X4_link sh f S (t + 1) l4 l7).bind fun y4 =>
        (kR t (l5 &&& (((1 : Int32) <<< (l7 &&& 31)) ^^^ (-1 : Int32))) (p2 ||| y4) (p3 + (1 : Int32))).bind fun y5 =>
        bnd (l6 + (y3 * y5)) fun x6 =>
        bnd (l7 + (1 : Int32)) fun x7 =>
        F_X5_walk_L51 sh f S t p1 p2 p3 kR n l4 l5 x6 x7
      )
    )
def F_X5_walk (sh : List Sh) (f : Nat) : Nat → St → Nat → Int32 → Int32 → Int32 → Option (Int32)
  | 0, _, _, _, _, _ => none
  | e + 1, S, t, p1, p2, p3 =>
    if p1 = 0 then (
      (F_X4_hangs sh f S (t + 1) p2).bind fun y4 =>
      if y4 = 0 then (
        some (0 : Int32)
      ) else (
        some (1 : Int32)
      )
    ) else (
      if p3 < (6 : Int32) then (
        (F_J6_numberOfTrailingZeros_0f7a4 sh f S p1).bind fun y1 =>
        bnd (p1 &&& (p1 - (1 : Int32))) fun x2 =>
        bnd (y1 + (1 : Int32)) fun x3 =>
        F_X5_walk_L51 sh f S t p1 p2 p3 (F_X5_walk sh f e S) f y1 x2 (0 : Int32) x3
      ) else (
        some (0 : Int32)
      )
    )
def F_X5_walkAll_L3 (sh : List Sh) (f : Nat) (t : Nat) (p1 : Nat) (p2 : Nat) (p3 : Nat) (p4 : Int32) : Nat → St → Int32 → Option (St)
  | 0, _, _ => none
  | n + 1, S, l5 =>
    if (sI S p3 18) ≤ l5 then (
      some S
    ) else (
      if l5 < 0 ∨ 20 ≤ l5.toNatClampNeg then none else
      if (sA S (p3 + 14) l5.toNatClampNeg) = p4 then (
        if l5 < 0 ∨ 20 ≤ l5.toNatClampNeg then none else
        if (sA S (p3 + 16) l5.toNatClampNeg) = 0 then (
          if l5 < 0 ∨ 20 ≤ l5.toNatClampNeg then none else
          (F_X4_lay sh f S (t + 1) p1 p2 (sI S p3 16) (sA S (p3 + 8) l5.toNatClampNeg)).bind fun y3 =>
          if y3.1 = 0 then (
            bnd (l5 + (1 : Int32)) fun x4 =>
            F_X5_walkAll_L3 sh f t p1 p2 p3 p4 n y3.2 x4
          ) else (
            (F_X4_allLegs sh f y3.2 (t + 1)).bind fun y5 =>
            (F_X5_walk sh f 10 y3.2 t y5 (0 : Int32) (0 : Int32)).bind fun y6 =>
            if l5 < 0 ∨ 20 ≤ l5.toNatClampNeg then none else
            bnd (uA y3.2 (p3 + 15) l5.toNatClampNeg y6) fun S7 =>
            if l5 < 0 ∨ 20 ≤ l5.toNatClampNeg then none else
            bnd (uA S7 (p3 + 16) l5.toNatClampNeg (vp_nar .boolean (1 : Int32))) fun S8 =>
            bnd (l5 + (1 : Int32)) fun x9 =>
            F_X5_walkAll_L3 sh f t p1 p2 p3 p4 n S8 x9
          )
        ) else (
          bnd (l5 + (1 : Int32)) fun x2 =>
          F_X5_walkAll_L3 sh f t p1 p2 p3 p4 n S x2
        )
      ) else (
        bnd (l5 + (1 : Int32)) fun x1 =>
        F_X5_walkAll_L3 sh f t p1 p2 p3 p4 n S x1
      )
    )
def F_X5_walkAll (sh : List Sh) (f : Nat) (S : St) (t : Nat) (p1 : Nat) (p2 : Nat) (p3 : Nat) (p4 : Int32) : Option (St) :=
  F_X5_walkAll_L3 sh f t p1 p2 p3 p4 f S (0 : Int32)
def F_X6_put_L3 (sh : List Sh) (f : Nat) (t : Nat) (p1 : Int32) : Nat → St → Int32 → Option (St)
  | 0, _, _ => none
  | n + 1, S, l2 =>
    if l2 < 0 then (
      some S
    ) else (
      if (400 : Int32) ≤ (sI S t 1) then (
        bnd (l2 + (-8 : Int32)) fun x1 =>
        F_X6_put_L3 sh f t p1 n S x1
      ) else (
        if (sI S t 1) < 0 ∨ 400 ≤ (sI S t 1).toNatClampNeg then none else
        bnd (uA S (t + 1) (sI S t 1).toNatClampNeg (vp_nar .byte ((p1 >>> (l2 &&& 31)).toInt8.toInt32))) fun S2 =>
        bnd (uI S2 t 1 ((sI S2 t 1) + (1 : Int32))) fun S3 =>
        bnd (l2 + (-8 : Int32)) fun x4 =>
        F_X6_put_L3 sh f t p1 n S3 x4
      )
    )
def F_X6_put (sh : List Sh) (f : Nat) (S : St) (t : Nat) (p1 : Int32) : Option (St) :=
  F_X6_put_L3 sh f t p1 f S (24 : Int32)
def F_X6_take (sh : List Sh) (f : Nat) (S : St) (t : Nat) (p1 : Int32) (p2 : Int32) (p3 : Int32) (p4 : Int32) (p5 : Int32) : Option (Int32 × St) :=
  if (sI S t 1) ≤ (380 : Int32) then (
    (F_X6_put sh f S t p1).bind fun y1 =>
    (F_X6_put sh f y1 t p2).bind fun y2 =>
    (F_X6_put sh f y2 t p3).bind fun y3 =>
    (F_X6_put sh f y3 t p4).bind fun y4 =>
    (F_X6_put sh f y4 t p5).bind fun y5 =>
    some ((sI y5 t 1), y5)
  ) else (
    some ((-1 : Int32), S)
  )
def F_X6_byteAt (sh : List Sh) (f : Nat) (S : St) (t : Nat) (p1 : Int32) : Option (Int32) :=
  if p1 < 0 then (
    some (0 : Int32)
  ) else (
    if (sI S t 2) ≤ p1 then (
      some (0 : Int32)
    ) else (
      if (400 : Int32) ≤ p1 then (
        some (0 : Int32)
      ) else (
        if p1 < 0 ∨ 400 ≤ p1.toNatClampNeg then none else
        some (sA S (t + 1) p1.toNatClampNeg)
      )
    )
  )
def F_X6_isSmall (sh : List Sh) (f : Nat) (S : St) (p0 : Int32) : Option (Int32) :=
  if p0 < (97 : Int32) then (
    some (0 : Int32)
  ) else (
    if (122 : Int32) < p0 then (
      some (0 : Int32)
    ) else (
      some (1 : Int32)
    )
  )
def F_X6_readWord_L5 (sh : List Sh) (f : Nat) (t : Nat) : Nat → St → Option (St)
  | 0, _ => none
  | n + 1, S =>
    if (sI S t 2) ≤ (sI S t 3) then (
      if ((sI S t 3) - (sI S t 5)) ≤ (8 : Int32) then (
        bnd (uI S t 4 (1 : Int32)) fun S1 =>
        some S1
      ) else (
        bnd (uI S t 4 (5 : Int32)) fun S2 =>
        some S2
      )
    ) else (
      (F_X6_byteAt sh f S t (sI S t 3)).bind fun y3 =>
      (F_X6_isSmall sh f S y3).bind fun y4 =>
      if y4 = 0 then (
        if ((sI S t 3) - (sI S t 5)) ≤ (8 : Int32) then (
          bnd (uI S t 4 (1 : Int32)) fun S5 =>
          some S5
        ) else (
          bnd (uI S t 4 (5 : Int32)) fun S6 =>
          some S6
        )
      ) else (
        (F_X6_byteAt sh f S t (sI S t 3)).bind fun y7 =>
        bnd (uJ S t 6 (((sJ S t 6) <<< ((5 : Int32).toInt64 &&& 63)) ||| (((y7 - (97 : Int32)) + (1 : Int32)).toInt64))) fun S8 =>
        bnd (uI S8 t 3 ((sI S8 t 3) + (1 : Int32))) fun S9 =>
        F_X6_readWord_L5 sh f t n S9
      )
    )
def F_X6_readWord (sh : List Sh) (f : Nat) (S : St) (t : Nat) : Option (St) :=
  bnd (uJ S t 6 (0 : Int64)) fun S1 =>
  F_X6_readWord_L5 sh f t f S1
def F_X6_isDigit (sh : List Sh) (f : Nat) (S : St) (p0 : Int32) : Option (Int32) :=
  if p0 < (48 : Int32) then (
    some (0 : Int32)
  ) else (
    if (57 : Int32) < p0 then (
      some (0 : Int32)
    ) else (
      some (1 : Int32)
    )
  )
def F_X6_readWhole_L5 (sh : List Sh) (f : Nat) (t : Nat) : Nat → St → Option (St)
  | 0, _ => none
  | n + 1, S =>
    if (sI S t 2) ≤ (sI S t 3) then (
      if ((sI S t 3) - (sI S t 5)) ≤ (3 : Int32) then (
        bnd (uI S t 4 (2 : Int32)) fun S1 =>
        some S1
      ) else (
        bnd (uI S t 4 (5 : Int32)) fun S2 =>
        some S2
      )
    ) else (
      (F_X6_byteAt sh f S t (sI S t 3)).bind fun y3 =>
      (F_X6_isDigit sh f S y3).bind fun y4 =>
      if y4 = 0 then (
        if ((sI S t 3) - (sI S t 5)) ≤ (3 : Int32) then (
          bnd (uI S t 4 (2 : Int32)) fun S5 =>
          some S5
        ) else (
          bnd (uI S t 4 (5 : Int32)) fun S6 =>
          some S6
        )
      ) else (
        (F_X6_byteAt sh f S t (sI S t 3)).bind fun y7 =>
        bnd (uI S t 7 ((((sI S t 7) * (10 : Int32)) + y7) - (48 : Int32))) fun S8 =>
        bnd (uI S8 t 3 ((sI S8 t 3) + (1 : Int32))) fun S9 =>
        F_X6_readWhole_L5 sh f t n S9
      )
    )
def F_X6_readWhole (sh : List Sh) (f : Nat) (S : St) (t : Nat) : Option (St) :=
  bnd (uI S t 7 (0 : Int32)) fun S1 =>
  F_X6_readWhole_L5 sh f t f S1
def F_X6_advance_L37 (sh : List Sh) (f : Nat) (t : Nat) : St → Option (St) := fun S =>
  bnd (uI S t 5 (sI S t 3)) fun S1 =>
  if (sI S1 t 3) < (sI S1 t 2) then (
    (F_X6_byteAt sh f S1 t (sI S1 t 3)).bind fun y2 =>
    (F_X6_isSmall sh f S1 y2).bind fun y3 =>
    if y3 = 0 then (
      (F_X6_isDigit sh f S1 y2).bind fun y4 =>
      if y4 = 0 then (
        if y2 = (59 : Int32) then (
          bnd (uI S1 t 4 (3 : Int32)) fun S9 =>
          bnd (uI S9 t 3 ((sI S9 t 3) + (1 : Int32))) fun S10 =>
          some S10
        ) else (
          if y2 = (45 : Int32) then (
            bnd (uI S1 t 4 (4 : Int32)) fun S7 =>
            bnd (uI S7 t 3 ((sI S7 t 3) + (1 : Int32))) fun S8 =>
            some S8
          ) else (
            bnd (uI S1 t 4 (5 : Int32)) fun S5 =>
            bnd (uI S5 t 3 ((sI S5 t 3) + (1 : Int32))) fun S6 =>
            some S6
          )
        )
      ) else (
        (F_X6_readWhole sh f S1 t).bind fun y11 =>
        some y11
      )
    ) else (
      (F_X6_readWord sh f S1 t).bind fun y12 =>
      some y12
    )
  ) else (
    bnd (uI S1 t 4 (0 : Int32)) fun S13 =>
    some S13
  )
def F_X6_advance_L0 (sh : List Sh) (f : Nat) (t : Nat) : Nat → St → Option (St)
  | 0, _ => none
  | n + 1, S =>
    if (sI S t 2) ≤ (sI S t 3) then (
      F_X6_advance_L37 sh f t S
    ) else (
      (F_X6_byteAt sh f S t (sI S t 3)).bind fun y1 =>
      if y1 = (32 : Int32) then (
        bnd (uI S t 3 ((sI S t 3) + (1 : Int32))) fun S2 =>
        F_X6_advance_L0 sh f t n S2
      ) else (
        F_X6_advance_L37 sh f t S
      )
    )
def F_X6_advance (sh : List Sh) (f : Nat) (S : St) (t : Nat) : Option (St) :=
  F_X6_advance_L0 sh f t f S
def F_X6_fail (sh : List Sh) (f : Nat) (S : St) (t : Nat) (p1 : Int32) (p2 : Int32) : Option (Int32 × St) :=
  bnd (uI S t 8 p1) fun S1 =>
  bnd (uI S1 t 9 p2) fun S2 =>
  some ((0 : Int32), S2)
def F_X6_isName (sh : List Sh) (f : Nat) (S : St) (t : Nat) : Option (Int32) :=
  if (sI S t 4) = (1 : Int32) then (
    if (lg_cmp (sJ S t 6) (16110 : Int64)) = 0 then (
      some (0 : Int32)
    ) else (
      if (lg_cmp (sJ S t 6) (525618 : Int64)) = 0 then (
        some (0 : Int32)
      ) else (
        if (lg_cmp (sJ S t 6) (263558 : Int64)) = 0 then (
          some (0 : Int32)
        ) else (
          if (lg_cmp (sJ S t 6) (431284 : Int64)) = 0 then (
            some (0 : Int32)
          ) else (
            if (lg_cmp (sJ S t 6) (89 : Int64)) = 0 then (
              some (0 : Int32)
            ) else (
              some (1 : Int32)
            )
          )
        )
      )
    )
  ) else (
    some (0 : Int32)
  )
def F_X6_readNewName (sh : List Sh) (f : Nat) (S : St) (t : Nat) : Option (Int32 × St) :=
  (F_X6_isName sh f S t).bind fun y1 =>
  if y1 = 0 then (
    (F_X6_fail sh f S t (1 : Int32) (sI S t 5)).bind fun y9 =>
    if ¬ (y9.1 = 0 ∨ y9.1 = 1) then none else
    some (y9.1, y9.2)
  ) else (
    (sR S t 10).bind fun b2 =>
    if ckX0 sh b2 = true then (
      (F_X0_findKind sh f S b2 (sJ S t 6)).bind fun y3 =>
      if y3 = (-1 : Int32) then (
        (sR S t 10).bind fun b4 =>
        if ckX0 sh b4 = true then (
          (F_X0_addKind sh f S b4 (sJ S t 6)).bind fun y5 =>
          if y5.1 = 0 then (
            (F_X6_fail sh f y5.2 t (6 : Int32) (sI y5.2 t 5)).bind fun y7 =>
            if ¬ (y7.1 = 0 ∨ y7.1 = 1) then none else
            some (y7.1, y7.2)
          ) else (
            (F_X6_advance sh f y5.2 t).bind fun y6 =>
            some ((1 : Int32), y6)
          )
        ) else none
      ) else (
        (F_X6_fail sh f S t (3 : Int32) (sI S t 5)).bind fun y8 =>
        if ¬ (y8.1 = 0 ∨ y8.1 = 1) then none else
        some (y8.1, y8.2)
      )
    ) else none
  )
def F_X6_readHeavy (sh : List Sh) (f : Nat) (S : St) (t : Nat) : Option (Int32 × St) :=
  if (sI S t 4) = (2 : Int32) then (
    if (sI S t 7) < (1 : Int32) then (
      (F_X6_fail sh f S t (4 : Int32) (sI S t 5)).bind fun y1 =>
      if y1.1 = 0 then (
        some ((0 : Int32), y1.2)
      ) else (
        some ((1 : Int32), y1.2)
      )
    ) else (
      if (sI S t 7) ≤ (99 : Int32) then (
        some ((1 : Int32), S)
      ) else (
        (F_X6_fail sh f S t (4 : Int32) (sI S t 5)).bind fun y2 =>
        if y2.1 = 0 then (
          some ((0 : Int32), y2.2)
        ) else (
          some ((1 : Int32), y2.2)
        )
      )
    )
  ) else (
    (F_X6_fail sh f S t (1 : Int32) (sI S t 5)).bind fun y3 =>
    if ¬ (y3.1 = 0 ∨ y3.1 = 1) then none else
    some (y3.1, y3.2)
  )
