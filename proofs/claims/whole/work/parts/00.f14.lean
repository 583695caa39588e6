def F_X6_readOwn (sh : List Sh) (f : Nat) (S : St) (t : Nat) : Option (Int32 × St) :=
  (F_X6_advance sh f S t).bind fun y1 =>
  (F_X6_readNewName sh f y1 t).bind fun y2 =>
  if y2.1 = 0 then (
    some ((0 : Int32), y2.2)
  ) else (
    (F_X6_readHeavy sh f y2.2 t).bind fun y3 =>
    if y3.1 = 0 then (
      some ((0 : Int32), y3.2)
    ) else (
      (sR y3.2 t 10).bind fun b4 =>
      if ckX0 sh b4 = true then (
        (F_X0_setOwn sh f y3.2 b4 (sI y3.2 t 7)).bind fun y5 =>
        (F_X6_advance sh f y5 t).bind fun y6 =>
        some ((1 : Int32), y6)
      ) else none
    )
  )
def F_X6_readInt_L29 (sh : List Sh) (f : Nat) (t : Nat) (p1 : Int32) (p2 : Int32) : St → Int32 → Int32 → Option (Int32 × St) := fun S l3 l4 =>
  if (sI S t 4) = (2 : Int32) then (
    if p1 < (sI S t 7) then (
      (F_X6_fail sh f S t (4 : Int32) l3).bind fun y1 =>
      if ¬ (y1.1 = 0 ∨ y1.1 = 1) then none else
      some (y1.1, y1.2)
    ) else (
      if (sI S t 7) = 0 then (
        if p2 = 0 then (
          (F_X6_fail sh f S t (4 : Int32) l3).bind fun y6 =>
          if ¬ (y6.1 = 0 ∨ y6.1 = 1) then none else
          some (y6.1, y6.2)
        ) else (
          if l4 = 0 then (
            bnd (uI S t 7 (sI S t 7)) fun S4 =>
            some ((1 : Int32), S4)
          ) else (
            bnd (uI S t 7 (-(sI S t 7))) fun S5 =>
            some ((1 : Int32), S5)
          )
        )
      ) else (
        if l4 = 0 then (
          bnd (uI S t 7 (sI S t 7)) fun S2 =>
          some ((1 : Int32), S2)
        ) else (
          bnd (uI S t 7 (-(sI S t 7))) fun S3 =>
          some ((1 : Int32), S3)
        )
      )
    )
  ) else (
    (F_X6_fail sh f S t (1 : Int32) (sI S t 5)).bind fun y7 =>
    if ¬ (y7.1 = 0 ∨ y7.1 = 1) then none else
    some (y7.1, y7.2)
  )
def F_X6_readInt_L18 (sh : List Sh) (f : Nat) (t : Nat) (p1 : Int32) (p2 : Int32) : St → Int32 → Int32 → Option (Int32 × St) := fun S l3 v0 =>
  if v0 = 0 then (
    F_X6_readInt_L29 sh f t p1 p2 S l3 v0
  ) else (
    (F_X6_advance sh f S t).bind fun y1 =>
    F_X6_readInt_L29 sh f t p1 p2 y1 l3 v0
  )
def F_X6_readInt (sh : List Sh) (f : Nat) (S : St) (t : Nat) (p1 : Int32) (p2 : Int32) : Option (Int32 × St) :=
  bnd (sI S t 5) fun x1 =>
  if (sI S t 4) = (4 : Int32) then (
    F_X6_readInt_L18 sh f t p1 p2 S x1 (1 : Int32)
  ) else (
    F_X6_readInt_L18 sh f t p1 p2 S x1 (0 : Int32)
  )
def F_X6_readTwo (sh : List Sh) (f : Nat) (S : St) (t : Nat) (p1 : Int32) : Option (Int32 × St) :=
  (F_X6_advance sh f S t).bind fun y1 =>
  (F_X6_readNewName sh f y1 t).bind fun y2 =>
  if y2.1 = 0 then (
    some ((0 : Int32), y2.2)
  ) else (
    (F_X6_readNewName sh f y2.2 t).bind fun y3 =>
    if y3.1 = 0 then (
      some ((0 : Int32), y3.2)
    ) else (
      (F_X6_readHeavy sh f y3.2 t).bind fun y4 =>
      if y4.1 = 0 then (
        some ((0 : Int32), y4.2)
      ) else (
        bnd (sI y4.2 t 7) fun x5 =>
        (F_X6_advance sh f y4.2 t).bind fun y6 =>
        (F_X6_readInt sh f y6 t (9 : Int32) (1 : Int32)).bind fun y7 =>
        if y7.1 = 0 then (
          some ((0 : Int32), y7.2)
        ) else (
          (sR y7.2 t 10).bind fun b8 =>
          if ckX0 sh b8 = true then (
            (F_X0_setTwo sh f y7.2 b8 p1 x5 (sI y7.2 t 7)).bind fun y9 =>
            (F_X6_advance sh f y9 t).bind fun y10 =>
            some ((1 : Int32), y10)
          ) else none
        )
      )
    )
  )
def F_X6_readLegs_L33 (sh : List Sh) (f : Nat) (t : Nat) (k2 : St → Int32 → Option (Int32 × St)) : St → Int32 → Option (Int32 × St) := fun S l1 =>
  (F_X6_isName sh f S t).bind fun y1 =>
  if y1 = 0 then (
    (F_X6_fail sh f S t (1 : Int32) (sI S t 5)).bind fun y10 =>
    if ¬ (y10.1 = 0 ∨ y10.1 = 1) then none else
    some (y10.1, y10.2)
  ) else (
    (sR S t 10).bind fun b2 =>
    if ckX0 sh b2 = true then (
      (F_X0_findKind sh f S b2 (sJ S t 6)).bind fun y3 =>
      if y3 = (-1 : Int32) then (
        (F_X6_fail sh f S t (2 : Int32) (sI S t 5)).bind fun y9 =>
        if ¬ (y9.1 = 0 ∨ y9.1 = 1) then none else
        some (y9.1, y9.2)
      ) else (
        (sR S t 10).bind fun b4 =>
        if ckX0 sh b4 = true then (
          (F_X0_addLeg sh f S b4 y3).bind fun y5 =>
          if y5.1 = 0 then (
            (F_X6_fail sh f y5.2 t (6 : Int32) (sI y5.2 t 5)).bind fun y8 =>
            if ¬ (y8.1 = 0 ∨ y8.1 = 1) then none else
            some (y8.1, y8.2)
          ) else (
            (F_X6_advance sh f y5.2 t).bind fun y6 =>
            bnd (l1 + (1 : Int32)) fun x7 =>
            k2 y6 x7
          )
        ) else none
      )
    ) else none
  )
def F_X6_readLegs_L2 (sh : List Sh) (f : Nat) (t : Nat) : Nat → St → Int32 → Option (Int32 × St)
  | 0, _, _ => none
  | n + 1, S, l1 =>
    if (4 : Int32) < l1 then (
      (F_X6_fail sh f S t (6 : Int32) (sI S t 5)).bind fun y1 =>
      if ¬ (y1.1 = 0 ∨ y1.1 = 1) then none else
      some (y1.1, y1.2)
    ) else (
      if l1 < (3 : Int32) then (
        F_X6_readLegs_L33 sh f t (F_X6_readLegs_L2 sh f t n) S l1
      ) else (
        if (sI S t 4) = (1 : Int32) then (
          if (lg_cmp (sJ S t 6) (89 : Int64)) = 0 then (
            some ((1 : Int32), S)
          ) else (
            F_X6_readLegs_L33 sh f t (F_X6_readLegs_L2 sh f t n) S l1
          )
        ) else (
          F_X6_readLegs_L33 sh f t (F_X6_readLegs_L2 sh f t n) S l1
        )
      )
    )
def F_X6_readLegs (sh : List Sh) (f : Nat) (S : St) (t : Nat) : Option (Int32 × St) :=
  F_X6_readLegs_L2 sh f t f S (0 : Int32)
def F_X6_readMeet (sh : List Sh) (f : Nat) (S : St) (t : Nat) : Option (Int32 × St) :=
  bnd (sI S t 5) fun x1 =>
  (sR S t 10).bind fun b2 =>
  if ckX0 sh b2 = true then (
    (F_X0_openRule sh f S b2).bind fun y3 =>
    if y3.1 = 0 then (
      (F_X6_fail sh f y3.2 t (6 : Int32) x1).bind fun y17 =>
      if ¬ (y17.1 = 0 ∨ y17.1 = 1) then none else
      some (y17.1, y17.2)
    ) else (
      (F_X6_advance sh f y3.2 t).bind fun y4 =>
      (F_X6_readLegs sh f y4 t).bind fun y5 =>
      if y5.1 = 0 then (
        some ((0 : Int32), y5.2)
      ) else (
        (F_X6_advance sh f y5.2 t).bind fun y6 =>
        (F_X6_readInt sh f y6 t (99 : Int32) (0 : Int32)).bind fun y7 =>
        if y7.1 = 0 then (
          some ((0 : Int32), y7.2)
        ) else (
          bnd (sI y7.2 t 7) fun x8 =>
          (F_X6_advance sh f y7.2 t).bind fun y9 =>
          if (sI y9 t 4) = (1 : Int32) then (
            if (lg_cmp (sJ y9 t 6) (1 : Int64)) < 0 then (
              (F_X6_fail sh f y9 t (4 : Int32) (sI y9 t 5)).bind fun y10 =>
              if ¬ (y10.1 = 0 ∨ y10.1 = 1) then none else
              some (y10.1, y10.2)
            ) else (
              if (lg_cmp (sJ y9 t 6) (3 : Int64)) ≤ 0 then (
                (sR y9 t 10).bind fun b11 =>
                if ckX0 sh b11 = true then (
                  (F_X0_closeRule sh f y9 b11 x8 (((sJ y9 t 6).toInt32) - (1 : Int32))).bind fun y12 =>
                  if y12.1 = 0 then (
                    (F_X6_fail sh f y12.2 t (5 : Int32) x1).bind fun y14 =>
                    if ¬ (y14.1 = 0 ∨ y14.1 = 1) then none else
                    some (y14.1, y14.2)
                  ) else (
                    (F_X6_advance sh f y12.2 t).bind fun y13 =>
                    some ((1 : Int32), y13)
                  )
                ) else none
              ) else (
                (F_X6_fail sh f y9 t (4 : Int32) (sI y9 t 5)).bind fun y15 =>
                if ¬ (y15.1 = 0 ∨ y15.1 = 1) then none else
                some (y15.1, y15.2)
              )
            )
          ) else (
            (F_X6_fail sh f y9 t (1 : Int32) (sI y9 t 5)).bind fun y16 =>
            if ¬ (y16.1 = 0 ∨ y16.1 = 1) then none else
            some (y16.1, y16.2)
          )
        )
      )
    )
  ) else none
def F_X6_readLine (sh : List Sh) (f : Nat) (S : St) (t : Nat) : Option (Int32 × St) :=
  if (sI S t 4) = (1 : Int32) then (
    if (lg_cmp (sJ S t 6) (16110 : Int64)) = 0 then (
      (F_X6_readOwn sh f S t).bind fun y5 =>
      if ¬ (y5.1 = 0 ∨ y5.1 = 1) then none else
      some (y5.1, y5.2)
    ) else (
      if (lg_cmp (sJ S t 6) (525618 : Int64)) = 0 then (
        (F_X6_readTwo sh f S t (1 : Int32)).bind fun y4 =>
        if ¬ (y4.1 = 0 ∨ y4.1 = 1) then none else
        some (y4.1, y4.2)
      ) else (
        if (lg_cmp (sJ S t 6) (263558 : Int64)) = 0 then (
          (F_X6_readTwo sh f S t (2 : Int32)).bind fun y3 =>
          if ¬ (y3.1 = 0 ∨ y3.1 = 1) then none else
          some (y3.1, y3.2)
        ) else (
          if (lg_cmp (sJ S t 6) (431284 : Int64)) = 0 then (
            (F_X6_readMeet sh f S t).bind fun y2 =>
            if ¬ (y2.1 = 0 ∨ y2.1 = 1) then none else
            some (y2.1, y2.2)
          ) else (
            (F_X6_fail sh f S t (1 : Int32) (sI S t 5)).bind fun y1 =>
            if ¬ (y1.1 = 0 ∨ y1.1 = 1) then none else
            some (y1.1, y1.2)
          )
        )
      )
    )
  ) else (
    (F_X6_fail sh f S t (1 : Int32) (sI S t 5)).bind fun y6 =>
    if ¬ (y6.1 = 0 ∨ y6.1 = 1) then none else
    some (y6.1, y6.2)
  )
def F_X6_read_L33 (sh : List Sh) (f : Nat) (t : Nat) (p1 : Int32) : Nat → St → Int32 → Option (Int32 × St)
  | 0, _, _ => none
  | n + 1, S, l2 =>
    if (400 : Int32) ≤ l2 then (
      (F_X6_fail sh f S t (1 : Int32) (sI S t 5)).bind fun y1 =>
      if ¬ (y1.1 = 0 ∨ y1.1 = 1) then none else
      some (y1.1, y1.2)
    ) else (
      (F_X6_readLine sh f S t).bind fun y2 =>
      if y2.1 = 0 then (
        some ((0 : Int32), y2.2)
      ) else (
        if (sI y2.2 t 4) = 0 then (
          some ((1 : Int32), y2.2)
        ) else (
          if (sI y2.2 t 4) = (3 : Int32) then (
            (F_X6_advance sh f y2.2 t).bind fun y3 =>
            bnd (l2 + (1 : Int32)) fun x4 =>
            F_X6_read_L33 sh f t p1 n y3 x4
          ) else (
            (F_X6_fail sh f y2.2 t (1 : Int32) (sI y2.2 t 5)).bind fun y5 =>
            if ¬ (y5.1 = 0 ∨ y5.1 = 1) then none else
            some (y5.1, y5.2)
          )
        )
      )
    )
def F_X6_read (sh : List Sh) (f : Nat) (S : St) (t : Nat) (p1 : Int32) : Option (Int32 × St) :=
  bnd (uI S t 2 p1) fun S1 =>
  bnd (uI S1 t 3 (0 : Int32)) fun S2 =>
  bnd (uI S2 t 8 (0 : Int32)) fun S3 =>
  bnd (uI S3 t 9 (-1 : Int32)) fun S4 =>
  (sR S4 t 10).bind fun b5 =>
  if ckX0 sh b5 = true then (
    (F_X0_clear sh f S4 b5).bind fun y6 =>
    (F_X6_advance sh f y6 t).bind fun y7 =>
    F_X6_read_L33 sh f t p1 f y7 (0 : Int32)
  ) else none
def F_X7_clear_L2 (sh : List Sh) (f : Nat) (t : Nat) : Nat → St → Int32 → Option (St)
  | 0, _, _ => none
  | n + 1, S, l1 =>
    if (4 : Int32) ≤ l1 then (
      bnd (uI S t 2 (-1 : Int32)) fun S1 =>
      bnd (uI S1 t 3 (0 : Int32)) fun S2 =>
      some S2
    ) else (
      if l1 < 0 ∨ 4 ≤ l1.toNatClampNeg then none else
      bnd (uL S (t + 1) l1.toNatClampNeg (0 : Int64)) fun S3 =>
      bnd (l1 + (1 : Int32)) fun x4 =>
      F_X7_clear_L2 sh f t n S3 x4
    )
def F_X7_clear (sh : List Sh) (f : Nat) (S : St) (t : Nat) : Option (St) :=
  F_X7_clear_L2 sh f t f S (0 : Int32)
def F_X7_findCut_L3 (sh : List Sh) (f : Nat) (S : St) (p0 : Nat) (p1 : Int32) (p2 : Int32) (p3 : Int32) : Nat → Int32 → Option (Int32)
  | 0, _ => none
  | n + 1, l4 =>
    if p1 < 0 ∨ 200 ≤ p1.toNatClampNeg then none else
    if (sA S (p0 + 5) p1.toNatClampNeg) ≤ l4 then (
      some (-1 : Int32)
    ) else (
      (F_X3_sideOf sh f S p0 p1 l4).bind fun y1 =>
      if y1 = p2 then (
        (F_X3_sideKindOf sh f S p0 p1 l4).bind fun y3 =>
        if y3 = p3 then (
          some l4
        ) else (
          bnd (l4 + (1 : Int32)) fun x4 =>
          F_X7_findCut_L3 sh f S p0 p1 p2 p3 n x4
        )
      ) else (
        bnd (l4 + (1 : Int32)) fun x2 =>
        F_X7_findCut_L3 sh f S p0 p1 p2 p3 n x2
      )
    )
def F_X7_findCut (sh : List Sh) (f : Nat) (S : St) (p0 : Nat) (p1 : Int32) (p2 : Int32) (p3 : Int32) : Option (Int32) :=
  F_X7_findCut_L3 sh f S p0 p1 p2 p3 f (0 : Int32)
def F_X7_divideByJoins_L122 (sh : List Sh) (f : Nat) (t : Nat) (p1 : Nat) (p2 : Int32) (p3 : Nat) (p4 : Nat) (p5 : Int32) (k32 : St → Int32 → Option (St)) : Nat → St → Int32 → Int64 → Int32 → Option (St)
  | 0, _, _, _, _ => none
  | n + 1, S, l6, l11, l13 =>
    if (4 : Int32) ≤ l13 then (
      bnd (l6 + (1 : Int32)) fun x1 =>
      k32 S x1
    ) else (
      if l13 < 0 ∨ 4 ≤ l13.toNatClampNeg then none else
      bnd ((v_tf v_T2 l13.toNatClampNeg).toInt64) fun x3 =>
      if l13 < 0 ∨ 4 ≤ l13.toNatClampNeg then none else
      (F_J9_floorMod_f86c9 sh f S l11 x3).bind fun y4 =>
      if x3 = 0 then none else
      if l13 < 0 ∨ 4 ≤ l13.toNatClampNeg then none else
      bnd (uL S (t + 2) l13.toNatClampNeg (((sL S (t + 2) l13.toNatClampNeg) * y4) - ((sL S (t + 2) l13.toNatClampNeg) * y4) / x3 * x3)) fun S5 =>
      bnd (l13 + (1 : Int32)) fun x6 =>
      F_X7_divideByJoins_L122 sh f t p1 p2 p3 p4 p5 k32 n S5 l6 l11 x6
    )
def F_X7_divideByJoins_L32 (sh : List Sh) (f : Nat) (t : Nat) (p1 : Nat) (p2 : Int32) (p3 : Nat) (p4 : Nat) (p5 : Int32) : Nat → St → Int32 → Option (St)
  | 0, _, _ => none
  | n + 1, S, l6 =>
    if p2 < 0 ∨ 200 ≤ p2.toNatClampNeg then none else
    if (sA S (p1 + 5) p2.toNatClampNeg) ≤ l6 then (
      some S
    ) else (
      if l6 = p5 then (
        bnd (l6 + (1 : Int32)) fun x1 =>
        F_X7_divideByJoins_L32 sh f t p1 p2 p3 p4 p5 n S x1
      ) else (
        (F_X3_sideOf sh f S p1 p2 l6).bind fun y2 =>
        (F_X1_flow sh f S p4 y2).bind fun y3 =>
        bnd y3.toInt64 fun x4 =>
        (F_X3_sideKindOf sh f S p1 p2 l6).bind fun y5 =>
        if y5 < 0 ∨ 8 ≤ y5.toNatClampNeg then none else
        bnd ((sA S (p3 + 3) y5.toNatClampNeg).toInt64) fun x6 =>
        bnd ((x4 * x4) - (x6 * x6)) fun x7 =>
        if (lg_cmp x7 (0 : Int64)) = 0 then (
          if (sI S t 2) = (-1 : Int32) then (
            (F_X3_sideOf sh f S p1 p2 l6).bind fun y8 =>
            bnd (uI S t 2 y8) fun S9 =>
            F_X7_divideByJoins_L122 sh f t p1 p2 p3 p4 p5 (F_X7_divideByJoins_L32 sh f t p1 p2 p3 p4 p5 n) f S9 l6 x7 (0 : Int32)
          ) else (
            F_X7_divideByJoins_L122 sh f t p1 p2 p3 p4 p5 (F_X7_divideByJoins_L32 sh f t p1 p2 p3 p4 p5 n) f S l6 x7 (0 : Int32)
          )
        ) else (
          F_X7_divideByJoins_L122 sh f t p1 p2 p3 p4 p5 (F_X7_divideByJoins_L32 sh f t p1 p2 p3 p4 p5 n) f S l6 x7 (0 : Int32)
        )
      )
    )
def F_X7_divideByJoins_L3 (sh : List Sh) (f : Nat) (t : Nat) (p1 : Nat) (p2 : Int32) (p3 : Nat) (p4 : Nat) (p5 : Int32) : Nat → St → Int32 → Option (St)
  | 0, _, _ => none
  | n + 1, S, l6 =>
    if (4 : Int32) ≤ l6 then (
      F_X7_divideByJoins_L32 sh f t p1 p2 p3 p4 p5 f S (0 : Int32)
    ) else (
      if p2 < 0 ∨ 200 ≤ p2.toNatClampNeg then none else
      if l6 < 0 ∨ 4 ≤ l6.toNatClampNeg then none else
      bnd (uL S (t + 2) l6.toNatClampNeg ((sA S (p1 + 2) p2.toNatClampNeg).toInt64)) fun S1 =>
      bnd (l6 + (1 : Int32)) fun x2 =>
      F_X7_divideByJoins_L3 sh f t p1 p2 p3 p4 p5 n S1 x2
    )
def F_X7_divideByJoins (sh : List Sh) (f : Nat) (S : St) (t : Nat) (p1 : Nat) (p2 : Int32) (p3 : Nat) (p4 : Nat) (p5 : Int32) : Option (St) :=
  F_X7_divideByJoins_L3 sh f t p1 p2 p3 p4 p5 f S (0 : Int32)
def F_X7_above_L51 (sh : List Sh) (f : Nat) (S : St) (p0 : Nat) (p1 : Int32) (p2 n2 : Nat) (k18 : Int32 → Int64 → Int32 → Option (Int64)) : Nat → Int32 → Int64 → Int32 → Int32 → Int32 → Option (Int64)
  | 0, _, _, _, _, _ => none
  | n + 1, l3, l4, l6, l7, l8 =>
    if l7 ≤ l8 then (
      bnd (l6 + (1 : Int32)) fun x1 =>
      k18 l3 l4 x1
    ) else (
      if l6 < 0 ∨ n2 ≤ l6.toNatClampNeg then none else
      bnd (l4 * ((sA S p2 l6.toNatClampNeg).toInt64)) fun x2 =>
      bnd (l8 + (1 : Int32)) fun x3 =>
      F_X7_above_L51 sh f S p0 p1 p2 n2 k18 n l3 x2 l6 l7 x3
    )
def F_X7_above_L18 (sh : List Sh) (f : Nat) (S : St) (p0 : Nat) (p1 : Int32) (p2 n2 : Nat) : Nat → Int32 → Int64 → Int32 → Option (Int64)
  | 0, _, _, _ => none
  | n + 1, l3, l4, l6 =>
    if (3 : Int32) ≤ l6 then (
      some l4
    ) else (
      if (Int32.ofNat n2) ≤ l6 then (
        some l4
      ) else (
        if l3 < 0 ∨ 20 ≤ l3.toNatClampNeg then none else
        bnd (((sA S (p0 + 14) l3.toNatClampNeg) >>> (((2 : Int32) * ((2 : Int32) - l6)) &&& 31)) &&& (3 : Int32)) fun x1 =>
        F_X7_above_L51 sh f S p0 p1 p2 n2 (F_X7_above_L18 sh f S p0 p1 p2 n2 n) f l3 l4 l6 x1 (0 : Int32)
      )
    )
def F_X7_above (sh : List Sh) (f : Nat) (S : St) (p0 : Nat) (p1 : Int32) (p2 n2 : Nat) : Option (Int64) :=
  (F_X3_groupOf sh f S p0 p1).bind fun y1 =>
  if y1 < 0 ∨ 20 ≤ y1.toNatClampNeg then none else
  bnd ((sA S (p0 + 13) y1.toNatClampNeg).toInt64) fun x2 =>
  F_X7_above_L18 sh f S p0 p1 p2 n2 f y1 x2 (0 : Int32)
def F_X7_inverse_L25 (sh : List Sh) (f : Nat) (S : St) (p0 : Int64) (p2 : Int64) : Nat → Int64 → Int64 → Int64 → Option (Int64)
  | 0, _, _, _ => none
  | n + 1, l4, l6, l8 =>
    if (lg_cmp l8 (0 : Int64)) ≤ 0 then (
      some l4
    ) else (
      if (lg_cmp (l8 &&& (1 : Int64)) (0 : Int64)) = 0 then (
        if p2 = 0 then none else
        bnd ((l6 * l6) - (l6 * l6) / p2 * p2) fun x1 =>
        bnd (l8 >>> ((1 : Int32).toInt64 &&& 63)) fun x2 =>
        F_X7_inverse_L25 sh f S p0 p2 n l4 x1 x2
      ) else (
        if p2 = 0 then none else
        bnd ((l4 * l6) - (l4 * l6) / p2 * p2) fun x3 =>
        if p2 = 0 then none else
        bnd ((l6 * l6) - (l6 * l6) / p2 * p2) fun x4 =>
        bnd (l8 >>> ((1 : Int32).toInt64 &&& 63)) fun x5 =>
        F_X7_inverse_L25 sh f S p0 p2 n x3 x4 x5
      )
    )
def F_X7_inverse (sh : List Sh) (f : Nat) (S : St) (p0 : Int64) (p2 : Int64) : Option (Int64) :=
  if 0 ≤ (lg_cmp p2 (2 : Int64)) then (
    if p2 = 0 then none else
    bnd (p0 - p0 / p2 * p2) fun x1 =>
    bnd (p2 - (2 : Int64)) fun x2 =>
    F_X7_inverse_L25 sh f S p0 p2 f (1 : Int64) x1 x2
  ) else (
    some (0 : Int64)
  )
