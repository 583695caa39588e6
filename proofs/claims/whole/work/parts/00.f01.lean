def F_X0_closeRule (sh : List Sh) (f : Nat) (S : St) (t : Nat) (p1 : Int32) (p2 : Int32) : Option (Int32 × St) :=
  if (sI S t 10) < (4 : Int32) then (
    bnd ((sI S t 10) * (4 : Int32)) fun x1 =>
    if (sI S t 10) < 0 ∨ 4 ≤ (sI S t 10).toNatClampNeg then none else
    (F_X0_areEven sh f S t (t + 9) 16 x1 (sA S (t + 6) (sI S t 10).toNatClampNeg)).bind fun y2 =>
    if y2 = 0 then (
      some ((0 : Int32), S)
    ) else (
      if (sI S t 10) < 0 ∨ 4 ≤ (sI S t 10).toNatClampNeg then none else
      (F_X0_hasHalfTwice sh f S t x1 (sA S (t + 6) (sI S t 10).toNatClampNeg)).bind fun y3 =>
      if y3 = 0 then (
        if (sI S t 10) < 0 ∨ 4 ≤ (sI S t 10).toNatClampNeg then none else
        bnd (uA S (t + 7) (sI S t 10).toNatClampNeg p1) fun S4 =>
        if (sI S4 t 10) < 0 ∨ 4 ≤ (sI S4 t 10).toNatClampNeg then none else
        bnd (uA S4 (t + 8) (sI S4 t 10).toNatClampNeg p2) fun S5 =>
        bnd (uI S5 t 10 ((sI S5 t 10) + (1 : Int32))) fun S6 =>
        some ((1 : Int32), S6)
      ) else (
        some ((0 : Int32), S)
      )
    )
  ) else (
    some ((0 : Int32), S)
  )
def F_X1_clear (sh : List Sh) (f : Nat) (S : St) (t : Nat) : Option (St) :=
  bnd (uI S t 2 (0 : Int32)) fun S1 =>
  some S1
def F_X1_add (sh : List Sh) (f : Nat) (S : St) (t : Nat) (p1 : Int32) (p2 : Int32) : Option (St) :=
  if (6 : Int32) ≤ (sI S t 2) then (
    some S
  ) else (
    if (sI S t 2) < 0 ∨ 6 ≤ (sI S t 2).toNatClampNeg then none else
    bnd (uA S (t + 1) (sI S t 2).toNatClampNeg p1) fun S1 =>
    if (sI S1 t 2) < 0 ∨ 6 ≤ (sI S1 t 2).toNatClampNeg then none else
    bnd (uA S1 (t + 2) (sI S1 t 2).toNatClampNeg p2) fun S2 =>
    bnd (uI S2 t 2 ((sI S2 t 2) + (1 : Int32))) fun S3 =>
    some S3
  )
def F_X1_isBalanced (sh : List Sh) (f : Nat) (S : St) (t : Nat) (p1 : Nat) : Option (Int32) :=
  (F_X0_areEven sh f S p1 (t + 1) 6 (0 : Int32) (sI S t 2)).bind fun y1 =>
  if ¬ (y1 = 0 ∨ y1 = 1) then none else
  some y1
def F_X1_flow_L4 (sh : List Sh) (f : Nat) (S : St) (t : Nat) (p1 : Int32) : Nat → Int32 → Int32 → Option (Int32)
  | 0, _, _ => none
  | n + 1, l2, l3 =>
    if (sI S t 2) ≤ l3 then (
      some l2
    ) else (
      if ((p1 >>> (l3 &&& 31)) &&& (1 : Int32)) = 0 then (
        bnd (l3 + (1 : Int32)) fun x1 =>
        F_X1_flow_L4 sh f S t p1 n l2 x1
      ) else (
        if l3 < 0 ∨ 6 ≤ l3.toNatClampNeg then none else
        bnd (l2 + (sA S (t + 2) l3.toNatClampNeg)) fun x2 =>
        bnd (l3 + (1 : Int32)) fun x3 =>
        F_X1_flow_L4 sh f S t p1 n x2 x3
      )
    )
def F_X1_flow (sh : List Sh) (f : Nat) (S : St) (t : Nat) (p1 : Int32) : Option (Int32) :=
  F_X1_flow_L4 sh f S t p1 f (0 : Int32) (0 : Int32)
def F_X1_total (sh : List Sh) (f : Nat) (S : St) (t : Nat) : Option (Int32) :=
  (F_X1_flow sh f S t (((1 : Int32) <<< ((sI S t 2) &&& 31)) - (1 : Int32))).bind fun y1 =>
  some y1
def F_X1_isSide (sh : List Sh) (f : Nat) (S : St) (t : Nat) (p1 : Int32) : Option (Int32) :=
  bnd (((1 : Int32) <<< ((sI S t 2) &&& 31)) - (1 : Int32)) fun x1 =>
  (F_J6_bitCount_0f7a4 sh f S p1).bind fun y2 =>
  if (p1 &&& (x1 ^^^ (-1 : Int32))) = 0 then (
    if (p1 &&& (1 : Int32)) = 0 then (
      some (0 : Int32)
    ) else (
      if y2 < (2 : Int32) then (
        some (0 : Int32)
      ) else (
        if ((sI S t 2) - y2) < (2 : Int32) then (
          some (0 : Int32)
        ) else (
          some (1 : Int32)
        )
      )
    )
  ) else (
    some (0 : Int32)
  )
def F_X12_thrown (sh : List Sh) (f : Nat) (S : St) (t : Nat) : Option (Int32) :=
  some (sI S t 0)
def F_X12_refused (sh : List Sh) (f : Nat) (S : St) (t : Nat) (p1 : Int32) : Option (Int32 × St) :=
  bnd (uI S t 1 p1) fun S1 =>
  bnd (uI S1 t 2 (-1 : Int32)) fun S2 =>
  bnd (uI S2 t 4 (-1 : Int32)) fun S3 =>
  some ((-1 : Int32), S3)
def F_X12_denied (sh : List Sh) (f : Nat) (S : St) (t : Nat) (p1 : Int32) : Option (Int32 × St) :=
  bnd (uI S t 1 p1) fun S1 =>
  bnd (uI S1 t 2 (-1 : Int32)) fun S2 =>
  bnd (uI S2 t 4 (-1 : Int32)) fun S3 =>
  some ((0 : Int32), S3)
def F_X12_done (sh : List Sh) (f : Nat) (S : St) (t : Nat) (p1 : Int32) : Option (Int32 × St) :=
  bnd (uI S t 1 (0 : Int32)) fun S1 =>
  bnd (uI S1 t 2 (-1 : Int32)) fun S2 =>
  bnd (uI S2 t 4 (-1 : Int32)) fun S3 =>
  some (p1, S3)
def F_X12_granted (sh : List Sh) (f : Nat) (S : St) (t : Nat) : Option (Int32 × St) :=
  bnd (uI S t 1 (0 : Int32)) fun S1 =>
  bnd (uI S1 t 2 (-1 : Int32)) fun S2 =>
  bnd (uI S2 t 4 (-1 : Int32)) fun S3 =>
  some ((1 : Int32), S3)
def F_X12_in (sh : List Sh) (f : Nat) (S : St) (p0 : Int32) (p1 : Int32) (p2 : Int32) : Option (Int32) :=
  if p0 < p1 then (
    some (0 : Int32)
  ) else (
    if p2 < p0 then (
      some (0 : Int32)
    ) else (
      some (1 : Int32)
    )
  )
def F_X12_byteAt (sh : List Sh) (f : Nat) (S : St) (t : Nat) (p1 : Int32) : Option (Int32) :=
  if (sI S t 10) ≤ p1 then (
    some (-1 : Int32)
  ) else (
    if p1 < 0 ∨ 400 ≤ p1.toNatClampNeg then none else
    some ((sA S (t + 13) p1.toNatClampNeg) &&& (255 : Int32))
  )
def F_X12_isLetter (sh : List Sh) (f : Nat) (S : St) (p0 : Int32) : Option (Int32) :=
  if p0 < (97 : Int32) then (
    some (0 : Int32)
  ) else (
    if (122 : Int32) < p0 then (
      some (0 : Int32)
    ) else (
      some (1 : Int32)
    )
  )
def F_X12_isDigit (sh : List Sh) (f : Nat) (S : St) (p0 : Int32) : Option (Int32) :=
  if p0 < (48 : Int32) then (
    some (0 : Int32)
  ) else (
    if (57 : Int32) < p0 then (
      some (0 : Int32)
    ) else (
      some (1 : Int32)
    )
  )
def F_X12_next_L80 (sh : List Sh) (f : Nat) (t : Nat) : Nat → St → Int32 → Option (St)
  | 0, _, _ => none
  | n + 1, S, l2 =>
    (F_X12_byteAt sh f S t (sI S t 11)).bind fun y1 =>
    (F_X12_isLetter sh f S y1).bind fun y2 =>
    if y2 = 0 then (
      if (8 : Int32) < l2 then (
        some S
      ) else (
        bnd (uI S t 12 (2 : Int32)) fun S3 =>
        some S3
      )
    ) else (
      if (8 : Int32) ≤ l2 then (
        bnd (l2 + (1 : Int32)) fun x4 =>
        bnd (uI S t 11 ((sI S t 11) + (1 : Int32))) fun S5 =>
        F_X12_next_L80 sh f t n S5 x4
      ) else (
        (F_X12_byteAt sh f S t (sI S t 11)).bind fun y6 =>
        bnd (uJ S t 16 (((32 : Int64) * (sJ S t 16)) + (((y6 - (97 : Int32)) + (1 : Int32)).toInt64))) fun S7 =>
        bnd (l2 + (1 : Int32)) fun x8 =>
        bnd (uI S7 t 11 ((sI S7 t 11) + (1 : Int32))) fun S9 =>
        F_X12_next_L80 sh f t n S9 x8
      )
    )
def F_X12_next_L169 (sh : List Sh) (f : Nat) (t : Nat) : Nat → St → Int32 → Option (St)
  | 0, _, _ => none
  | n + 1, S, l2 =>
    (F_X12_byteAt sh f S t (sI S t 11)).bind fun y1 =>
    (F_X12_isDigit sh f S y1).bind fun y2 =>
    if y2 = 0 then (
      if (4 : Int32) ≤ l2 then (
        some S
      ) else (
        bnd (uI S t 12 (3 : Int32)) fun S3 =>
        some S3
      )
    ) else (
      if (3 : Int32) ≤ l2 then (
        bnd (l2 + (1 : Int32)) fun x4 =>
        bnd (uI S t 11 ((sI S t 11) + (1 : Int32))) fun S5 =>
        F_X12_next_L169 sh f t n S5 x4
      ) else (
        (F_X12_byteAt sh f S t (sI S t 11)).bind fun y6 =>
        bnd (uI S t 15 ((((10 : Int32) * (sI S t 15)) + y6) - (48 : Int32))) fun S7 =>
        bnd (l2 + (1 : Int32)) fun x8 =>
        bnd (uI S7 t 11 ((sI S7 t 11) + (1 : Int32))) fun S9 =>
        F_X12_next_L169 sh f t n S9 x8
      )
    )
def F_X12_next_L0 (sh : List Sh) (f : Nat) (t : Nat) : Nat → St → Option (St)
  | 0, _ => none
  | n + 1, S =>
    (F_X12_byteAt sh f S t (sI S t 11)).bind fun y1 =>
    if y1 = (32 : Int32) then (
      bnd (uI S t 11 ((sI S t 11) + (1 : Int32))) fun S17 =>
      F_X12_next_L0 sh f t n S17
    ) else (
      bnd (uI S t 13 (sI S t 11)) fun S2 =>
      bnd (uI S2 t 12 (0 : Int32)) fun S3 =>
      bnd (uI S3 t 14 (0 : Int32)) fun S4 =>
      (F_X12_byteAt sh f S4 t (sI S4 t 11)).bind fun y5 =>
      if y5 = (-1 : Int32) then (
        bnd (uI S4 t 12 (1 : Int32)) fun S16 =>
        some S16
      ) else (
        (F_X12_isLetter sh f S4 y5).bind fun y6 =>
        if y6 = 0 then (
          (F_X12_isDigit sh f S4 y5).bind fun y7 =>
          if y7 = 0 then (
            if y5 = (59 : Int32) then (
              bnd (uI S4 t 12 (4 : Int32)) fun S8 =>
              bnd (uI S8 t 14 y5) fun S9 =>
              bnd (uI S9 t 11 ((sI S9 t 11) + (1 : Int32))) fun S10 =>
              some S10
            ) else (
              if y5 = (45 : Int32) then (
                bnd (uI S4 t 12 (4 : Int32)) fun S11 =>
                bnd (uI S11 t 14 y5) fun S12 =>
                bnd (uI S12 t 11 ((sI S12 t 11) + (1 : Int32))) fun S13 =>
                some S13
              ) else (
                some S4
              )
            )
          ) else (
            bnd (uI S4 t 15 (0 : Int32)) fun S14 =>
            F_X12_next_L169 sh f t f S14 (0 : Int32)
          )
        ) else (
          bnd (uJ S4 t 16 (0 : Int64)) fun S15 =>
          F_X12_next_L80 sh f t f S15 (0 : Int32)
        )
      )
    )
def F_X12_next (sh : List Sh) (f : Nat) (S : St) (t : Nat) : Option (St) :=
  F_X12_next_L0 sh f t f S
def F_X12_is (sh : List Sh) (f : Nat) (S : St) (t : Nat) (p1 : Int32) : Option (Int32) :=
  if (sI S t 12) = (4 : Int32) then (
    if (sI S t 14) = p1 then (
      some (1 : Int32)
    ) else (
      some (0 : Int32)
    )
  ) else (
    some (0 : Int32)
  )
def F_X12_isEven_L76 (sh : List Sh) (f : Nat) (S : St) (t : Nat) (p1 : Int32) (k10 : Int32 → Int32 → Int32 → Int32 → Option (Int32)) : Nat → Int32 → Int32 → Int32 → Int32 → Int32 → Int32 → Option (Int32)
  | 0, _, _, _, _, _, _ => none
  | n + 1, l2, l3, l4, l5, l6, l7 =>
    if l5 ≤ l7 then (
      bnd (l5 + (1 : Int32)) fun x1 =>
      k10 l2 l3 l4 x1
    ) else (
      if l4 = 0 then (
        bnd (l7 + (1 : Int32)) fun x2 =>
        F_X12_isEven_L76 sh f S t p1 k10 n l2 l3 (0 : Int32) l5 l6 x2
      ) else (
        (sR S t 6).bind fun b3 =>
        if ckX9 sh b3 = true then (
          if (((4 : Int32) * p1) + l7) < 0 ∨ 16 ≤ (((4 : Int32) * p1) + l7).toNatClampNeg then none else
          if (sA S (b3 + 7) (((4 : Int32) * p1) + l7).toNatClampNeg) = l6 then (
            bnd (l7 + (1 : Int32)) fun x4 =>
            F_X12_isEven_L76 sh f S t p1 k10 n l2 l3 (0 : Int32) l5 l6 x4
          ) else (
            bnd (l7 + (1 : Int32)) fun x5 =>
            F_X12_isEven_L76 sh f S t p1 k10 n l2 l3 (1 : Int32) l5 l6 x5
          )
        ) else none
      )
    )
def F_X12_isEven_L10 (sh : List Sh) (f : Nat) (S : St) (t : Nat) (p1 : Int32) : Nat → Int32 → Int32 → Int32 → Int32 → Option (Int32)
  | 0, _, _, _, _ => none
  | n + 1, l2, l3, l4, l5 =>
    (sR S t 6).bind fun b1 =>
    if ckX9 sh b1 = true then (
      if p1 < 0 ∨ 4 ≤ p1.toNatClampNeg then none else
      if (sA S (b1 + 6) p1.toNatClampNeg) ≤ l5 then (
        if l4 = 0 then (
          some (0 : Int32)
        ) else (
          if l2 = 0 then (
            if (l3 - l3 / (2 : Int32) * (2 : Int32)) = 0 then (
              some (1 : Int32)
            ) else (
              some (0 : Int32)
            )
          ) else (
            some (0 : Int32)
          )
        )
      ) else (
        (sR S t 6).bind fun b2 =>
        if ckX9 sh b2 = true then (
          if (((4 : Int32) * p1) + l5) < 0 ∨ 16 ≤ (((4 : Int32) * p1) + l5).toNatClampNeg then none else
          bnd (sA S (b2 + 7) (((4 : Int32) * p1) + l5).toNatClampNeg) fun x3 =>
          (sR S t 6).bind fun b4 =>
          if ckX9 sh b4 = true then (
            if x3 < 0 ∨ 8 ≤ x3.toNatClampNeg then none else
            bnd (l2 + (sA S (b4 + 4) x3.toNatClampNeg)) fun x5 =>
            (sR S t 6).bind fun b6 =>
            if ckX9 sh b6 = true then (
              if x3 < 0 ∨ 8 ≤ x3.toNatClampNeg then none else
              if (sA S (b6 + 5) x3.toNatClampNeg) = (2 : Int32) then (
                bnd (l3 + (1 : Int32)) fun x7 =>
                F_X12_isEven_L76 sh f S t p1 (F_X12_isEven_L10 sh f S t p1 n) f x5 x7 l4 l5 x3 (0 : Int32)
              ) else (
                bnd (l5 + (1 : Int32)) fun x8 =>
                F_X12_isEven_L10 sh f S t p1 n x5 l3 l4 x8
              )
            ) else none
          ) else none
        ) else none
      )
    ) else none
def F_X12_isEven (sh : List Sh) (f : Nat) (S : St) (t : Nat) (p1 : Int32) : Option (Int32) :=
  F_X12_isEven_L10 sh f S t p1 f (0 : Int32) (0 : Int32) (1 : Int32) (0 : Int32)
def F_X12_feed_L76 (sh : List Sh) (f : Nat) (t : Nat) (p1 : Int32) (p2 : Int32) (p3 : Int32) (p4 : Int32) (p5 : Int32) (k23 : St → Int32 → Option (Int32 × St)) : St → Int32 → Int32 → Option (Int32 × St) := fun S l6 v0 =>
  if (sI S t 9) < 0 ∨ 400 ≤ (sI S t 9).toNatClampNeg then none else
  bnd (uA S (t + 13) (sI S t 9).toNatClampNeg (vp_nar .byte ((v0 >>> (((24 : Int32) - ((8 : Int32) * (l6 - l6 / (4 : Int32) * (4 : Int32)))) &&& 31)).toInt8.toInt32))) fun S1 =>
  bnd (uI S1 t 9 ((sI S1 t 9) + (1 : Int32))) fun S2 =>
  bnd (l6 + (1 : Int32)) fun x3 =>
  k23 S2 x3
def F_X12_feed_L23 (sh : List Sh) (f : Nat) (t : Nat) (p1 : Int32) (p2 : Int32) (p3 : Int32) (p4 : Int32) (p5 : Int32) : Nat → St → Int32 → Option (Int32 × St)
  | 0, _, _ => none
  | n + 1, S, l6 =>
    if (20 : Int32) ≤ l6 then (
      some ((sI S t 9), S)
    ) else (
      if (4 : Int32) ≤ l6 then (
        if (8 : Int32) ≤ l6 then (
          if (12 : Int32) ≤ l6 then (
            if (16 : Int32) ≤ l6 then (
              F_X12_feed_L76 sh f t p1 p2 p3 p4 p5 (F_X12_feed_L23 sh f t p1 p2 p3 p4 p5 n) S l6 p5
            ) else (
              F_X12_feed_L76 sh f t p1 p2 p3 p4 p5 (F_X12_feed_L23 sh f t p1 p2 p3 p4 p5 n) S l6 p4
            )
          ) else (
            F_X12_feed_L76 sh f t p1 p2 p3 p4 p5 (F_X12_feed_L23 sh f t p1 p2 p3 p4 p5 n) S l6 p3
          )
        ) else (
          F_X12_feed_L76 sh f t p1 p2 p3 p4 p5 (F_X12_feed_L23 sh f t p1 p2 p3 p4 p5 n) S l6 p2
        )
      ) else (
        F_X12_feed_L76 sh f t p1 p2 p3 p4 p5 (F_X12_feed_L23 sh f t p1 p2 p3 p4 p5 n) S l6 p1
      )
    )
def F_X12_feed (sh : List Sh) (f : Nat) (S : St) (t : Nat) (p1 : Int32) (p2 : Int32) (p3 : Int32) (p4 : Int32) (p5 : Int32) : Option (Int32 × St) :=
  bnd (uI S t 0 (0 : Int32)) fun S1 =>
  if ((sI S1 t 9) + (20 : Int32)) ≤ (400 : Int32) then (
    F_X12_feed_L23 sh f t p1 p2 p3 p4 p5 f S1 (0 : Int32)
  ) else (
    some ((-1 : Int32), S1)
  )
def F_X12_fault (sh : List Sh) (f : Nat) (S : St) (t : Nat) : Option (Int32 × St) :=
  bnd (uI S t 0 (0 : Int32)) fun S1 =>
  some ((sI S1 t 3), S1)
