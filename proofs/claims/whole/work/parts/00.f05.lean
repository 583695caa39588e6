def F_X12_point (sh : List Sh) (f : Nat) (S : St) (t : Nat) (p1 : Int32) (p2 : Int32) : Option (Int32 × St) :=
  bnd (uI S t 0 (0 : Int32)) fun S1 =>
  (F_X12_isDrawing sh f S1 t p1).bind fun y2 =>
  if y2 = 0 then (
    some ((-1 : Int32), S1)
  ) else (
    (F_X12_in sh f S1 p2 (0 : Int32) ((sI S1 (t + 17) 1) - (1 : Int32))).bind fun y3 =>
    if y3 = 0 then (
      some ((-1 : Int32), S1)
    ) else (
      if (((3 : Int32) * p1) + p2) < 0 ∨ 600 ≤ (((3 : Int32) * p1) + p2).toNatClampNeg then none else
      some ((sA S1 ((t + 17) + 3) (((3 : Int32) * p1) + p2).toNatClampNeg), S1)
    )
  )
def F_X12_joined (sh : List Sh) (f : Nat) (S : St) (t : Nat) (p1 : Int32) (p2 : Int32) : Option (Int32 × St) :=
  bnd (uI S t 0 (0 : Int32)) fun S1 =>
  (F_X12_isDrawing sh f S1 t p1).bind fun y2 =>
  if y2 = 0 then (
    some ((-1 : Int32), S1)
  ) else (
    (F_X12_shows sh f S1 t (t + 17) p1).bind fun y3 =>
    (F_X12_in sh f y3 p2 (0 : Int32) ((sI y3 t 25) - (1 : Int32))).bind fun y4 =>
    if y4 = 0 then (
      some ((-1 : Int32), y3)
    ) else (
      if p2 < 0 ∨ 12 ≤ p2.toNatClampNeg then none else
      some ((sA y3 (t + 40) p2.toNatClampNeg), y3)
    )
  )
def F_X12_side_L40 (sh : List Sh) (f : Nat) (t : Nat) (p1 : Int32) (p2 : Int32) : Nat → St → Int32 → Int32 → Option (Int32 × St)
  | 0, _, _, _ => none
  | n + 1, S, l3, l4 =>
    if (sI S t 25) ≤ l4 then (
      some ((0 : Int32), S)
    ) else (
      if p2 < 0 then (
        some ((0 : Int32), S)
      ) else (
        (F_X12_sideOf sh f S t l4).bind fun y1 =>
        bnd y1.1 fun x2 =>
        if x2 = (-1 : Int32) then (
          bnd (l4 + (1 : Int32)) fun x6 =>
          F_X12_side_L40 sh f t p1 p2 n y1.2 l3 x6
        ) else (
          if l3 = 0 then (
            bnd (uI y1.2 t 0 (0 : Int32)) fun S5 =>
            some (x2, S5)
          ) else (
            bnd (l3 + (-1 : Int32)) fun x3 =>
            bnd (l4 + (1 : Int32)) fun x4 =>
            F_X12_side_L40 sh f t p1 p2 n y1.2 x3 x4
          )
        )
      )
    )
def F_X12_side (sh : List Sh) (f : Nat) (S : St) (t : Nat) (p1 : Int32) (p2 : Int32) : Option (Int32 × St) :=
  bnd (uI S t 0 (1 : Int32)) fun S1 =>
  (F_X12_isDrawing sh f S1 t p1).bind fun y2 =>
  if y2 = 0 then (
    some ((0 : Int32), S1)
  ) else (
    bnd (uI S1 t 40 (sI S1 (t + 17) 1)) fun S3 =>
    (F_X12_shows sh f S3 t (t + 17) p1).bind fun y4 =>
    F_X12_side_L40 sh f t p1 p2 f y4 p2 (0 : Int32)
  )
def F_X12_pairings (sh : List Sh) (f : Nat) (S : St) (t : Nat) : Option (Int32 × St) :=
  bnd (uI S t 0 (0 : Int32)) fun S1 =>
  if (sI S1 t 18) = 0 then (
    some ((-1 : Int32), S1)
  ) else (
    some ((sI S1 (t + 17) 3), S1)
  )
def F_X12_same_L294 (sh : List Sh) (f : Nat) (t : Nat) (p1 : Int32) (p2 : Int32) (p3 : Int32) (p4 : Int32) (p5 : Int32) (p6 : Int32) (p7 : Int32) (k276 : St → Int32 → Int32 → Option (Int32 × St)) : Nat → St → Int32 → Int32 → Int32 → Int32 → Option (Int32 × St)
  | 0, _, _, _, _, _ => none
  | n + 1, S, l11, l12, l13, l14 =>
    if (sI S (t + 17) 1) ≤ l14 then (
      if l13 = 0 then (
        bnd (l12 + (1 : Int32)) fun x5 =>
        k276 S l11 x5
      ) else (
        if l12 < 0 ∨ 200 ≤ l12.toNatClampNeg then none else
        (F_X12_rowAt sh f S t (sL S ((t + 17) + 6) l12.toNatClampNeg)).bind fun y1 =>
        (F_X12_spreads sh f S t (t + 17) (t + 48) 3 (0 : Int32) y1 l12).bind fun y2 =>
        bnd y2.1 fun x3 =>
        if l11 < 0 ∨ 10395 ≤ l11.toNatClampNeg then none else
        if (sA y2.2 (t + 44) l11.toNatClampNeg) = l12 then (
          some (l12, y2.2)
        ) else (
          bnd (l12 + (1 : Int32)) fun x4 =>
          k276 y2.2 l11 x4
        )
      )
    ) else (
      if l13 = 0 then (
        bnd (l14 + (1 : Int32)) fun x6 =>
        F_X12_same_L294 sh f t p1 p2 p3 p4 p5 p6 p7 k276 n S l11 l12 (0 : Int32) x6
      ) else (
        if (((3 : Int32) * l12) + l14) < 0 ∨ 600 ≤ (((3 : Int32) * l12) + l14).toNatClampNeg then none else
        if l14 < 0 ∨ 3 ≤ l14.toNatClampNeg then none else
        if (sA S ((t + 17) + 3) (((3 : Int32) * l12) + l14).toNatClampNeg) = (sA S (t + 48) l14.toNatClampNeg) then (
          bnd (l14 + (1 : Int32)) fun x8 =>
          F_X12_same_L294 sh f t p1 p2 p3 p4 p5 p6 p7 k276 n S l11 l12 (1 : Int32) x8
        ) else (
          bnd (l14 + (1 : Int32)) fun x7 =>
          F_X12_same_L294 sh f t p1 p2 p3 p4 p5 p6 p7 k276 n S l11 l12 (0 : Int32) x7
        )
      )
    )
def F_X12_same_L276 (sh : List Sh) (f : Nat) (t : Nat) (p1 : Int32) (p2 : Int32) (p3 : Int32) (p4 : Int32) (p5 : Int32) (p6 : Int32) (p7 : Int32) : Nat → St → Int32 → Int32 → Option (Int32 × St)
  | 0, _, _, _ => none
  | n + 1, S, l11, l12 =>
    if (sI S (t + 17) 0) ≤ l12 then (
      some ((-2 : Int32), S)
    ) else (
      F_X12_same_L294 sh f t p1 p2 p3 p4 p5 p6 p7 (F_X12_same_L276 sh f t p1 p2 p3 p4 p5 p6 p7 n) f S l11 l12 (1 : Int32) (0 : Int32)
    )
def F_X12_same_L185 (sh : List Sh) (f : Nat) (t : Nat) (p1 : Int32) (p2 : Int32) (p3 : Int32) (p4 : Int32) (p5 : Int32) (p6 : Int32) (p7 : Int32) : Nat → St → Int32 → Option (Int32 × St)
  | 0, _, _ => none
  | n + 1, S, l9 =>
    if (sI S t 25) ≤ l9 then (
      (F_X12_rowHere sh f S t).bind fun y1 =>
      (F_X12_pairs sh f S t).bind fun y2 =>
      (F_X12_rowAt sh f y2 t y1).bind fun y3 =>
      if y3 = (-1 : Int32) then (
        some ((-2 : Int32), y2)
      ) else (
        F_X12_same_L276 sh f t p1 p2 p3 p4 p5 p6 p7 f y2 y3 (0 : Int32)
      )
    ) else (
      if l9 < 0 ∨ 12 ≤ l9.toNatClampNeg then none else
      if (sI S t 25) ≤ (sA S (t + 40) l9.toNatClampNeg) then (
        some ((-2 : Int32), S)
      ) else (
        if l9 < 0 ∨ 12 ≤ l9.toNatClampNeg then none else
        if (sA S (t + 40) l9.toNatClampNeg) = l9 then (
          some ((-2 : Int32), S)
        ) else (
          if l9 < 0 ∨ 12 ≤ l9.toNatClampNeg then none else
          if (sA S (t + 40) l9.toNatClampNeg) < 0 ∨ 12 ≤ (sA S (t + 40) l9.toNatClampNeg).toNatClampNeg then none else
          if (sA S (t + 40) (sA S (t + 40) l9.toNatClampNeg).toNatClampNeg) = l9 then (
            bnd (l9 + (1 : Int32)) fun x4 =>
            F_X12_same_L185 sh f t p1 p2 p3 p4 p5 p6 p7 n S x4
          ) else (
            some ((-2 : Int32), S)
          )
        )
      )
    )
def F_X12_same_L121 (sh : List Sh) (f : Nat) (t : Nat) (p1 : Int32) (p2 : Int32) (p3 : Int32) (p4 : Int32) (p5 : Int32) (p6 : Int32) (p7 : Int32) : Nat → St → Int32 → Option (Int32 × St)
  | 0, _, _ => none
  | n + 1, S, l9 =>
    if (sI S t 25) ≤ l9 then (
      F_X12_same_L185 sh f t p1 p2 p3 p4 p5 p6 p7 f S (0 : Int32)
    ) else (
      if (l9 / (2 : Int32)) < 0 ∨ 6 ≤ (l9 / (2 : Int32)).toNatClampNeg then none else
      bnd (sA S (t + 49) (l9 / (2 : Int32)).toNatClampNeg) fun x1 =>
      if 0 ≤ x1 then (
        if (l9 - l9 / (2 : Int32) * (2 : Int32)) = 0 then (
          if l9 < 0 ∨ 12 ≤ l9.toNatClampNeg then none else
          bnd (uA S (t + 40) l9.toNatClampNeg (x1 / (100 : Int32))) fun S4 =>
          bnd (l9 + (1 : Int32)) fun x5 =>
          F_X12_same_L121 sh f t p1 p2 p3 p4 p5 p6 p7 n S4 x5
        ) else (
          if l9 < 0 ∨ 12 ≤ l9.toNatClampNeg then none else
          bnd (uA S (t + 40) l9.toNatClampNeg (x1 - x1 / (100 : Int32) * (100 : Int32))) fun S2 =>
          bnd (l9 + (1 : Int32)) fun x3 =>
          F_X12_same_L121 sh f t p1 p2 p3 p4 p5 p6 p7 n S2 x3
        )
      ) else (
        some ((-2 : Int32), S)
      )
    )
def F_X12_same_L18 (sh : List Sh) (f : Nat) (t : Nat) (p1 : Int32) (p2 : Int32) (p3 : Int32) (p4 : Int32) (p5 : Int32) (p6 : Int32) (p7 : Int32) : Nat → St → Int32 → Option (Int32 × St)
  | 0, _, _ => none
  | n + 1, S, l8 =>
    if (sI S (t + 17) 1) ≤ l8 then (
      (F_X12_lays sh f S t (t + 17) (t + 48) 3 (0 : Int32)).bind fun y1 =>
      bnd y1.1 fun x2 =>
      if (0 : Int32) < 0 ∨ 6 ≤ (0 : Int32).toNatClampNeg then none else
      bnd (uA y1.2 (t + 49) (0 : Int32).toNatClampNeg p2) fun S3 =>
      if (1 : Int32) < 0 ∨ 6 ≤ (1 : Int32).toNatClampNeg then none else
      bnd (uA S3 (t + 49) (1 : Int32).toNatClampNeg p3) fun S4 =>
      if (2 : Int32) < 0 ∨ 6 ≤ (2 : Int32).toNatClampNeg then none else
      bnd (uA S4 (t + 49) (2 : Int32).toNatClampNeg p4) fun S5 =>
      if (3 : Int32) < 0 ∨ 6 ≤ (3 : Int32).toNatClampNeg then none else
      bnd (uA S5 (t + 49) (3 : Int32).toNatClampNeg p5) fun S6 =>
      if (4 : Int32) < 0 ∨ 6 ≤ (4 : Int32).toNatClampNeg then none else
      bnd (uA S6 (t + 49) (4 : Int32).toNatClampNeg p6) fun S7 =>
      if (5 : Int32) < 0 ∨ 6 ≤ (5 : Int32).toNatClampNeg then none else
      bnd (uA S7 (t + 49) (5 : Int32).toNatClampNeg p7) fun S8 =>
      F_X12_same_L121 sh f t p1 p2 p3 p4 p5 p6 p7 f S8 (0 : Int32)
    ) else (
      if (((3 : Int32) * p1) + l8) < 0 ∨ 600 ≤ (((3 : Int32) * p1) + l8).toNatClampNeg then none else
      if l8 < 0 ∨ 3 ≤ l8.toNatClampNeg then none else
      bnd (uA S (t + 48) l8.toNatClampNeg (sA S ((t + 17) + 3) (((3 : Int32) * p1) + l8).toNatClampNeg)) fun S9 =>
      bnd (l8 + (1 : Int32)) fun x10 =>
      F_X12_same_L18 sh f t p1 p2 p3 p4 p5 p6 p7 n S9 x10
    )
def F_X12_same (sh : List Sh) (f : Nat) (S : St) (t : Nat) (p1 : Int32) (p2 : Int32) (p3 : Int32) (p4 : Int32) (p5 : Int32) (p6 : Int32) (p7 : Int32) : Option (Int32 × St) :=
  bnd (uI S t 0 (0 : Int32)) fun S1 =>
  (F_X12_isDrawing sh f S1 t p1).bind fun y2 =>
  if y2 = 0 then (
    some ((-1 : Int32), S1)
  ) else (
    F_X12_same_L18 sh f t p1 p2 p3 p4 p5 p6 p7 f S1 (0 : Int32)
  )
def F_X12_set_L2 (sh : List Sh) (f : Nat) (p0 n0 : Nat) (p1 : Int32) : Nat → St → Int32 → Option (St)
  | 0, _, _ => none
  | n + 1, S, l2 =>
    if (16 : Int32) ≤ l2 then (
      some S
    ) else (
      if l2 = 0 then (
        if l2 < 0 ∨ n0 ≤ l2.toNatClampNeg then none else
        bnd (uA S p0 l2.toNatClampNeg p1) fun S5 =>
        bnd (l2 + (1 : Int32)) fun x6 =>
        F_X12_set_L2 sh f p0 n0 p1 n S5 x6
      ) else (
        if 0 ≤ p1 then (
          if l2 < 0 ∨ n0 ≤ l2.toNatClampNeg then none else
          bnd (uA S p0 l2.toNatClampNeg (0 : Int32)) fun S1 =>
          bnd (l2 + (1 : Int32)) fun x2 =>
          F_X12_set_L2 sh f p0 n0 p1 n S1 x2
        ) else (
          if l2 < 0 ∨ n0 ≤ l2.toNatClampNeg then none else
          bnd (uA S p0 l2.toNatClampNeg (-1 : Int32)) fun S3 =>
          bnd (l2 + (1 : Int32)) fun x4 =>
          F_X12_set_L2 sh f p0 n0 p1 n S3 x4
        )
      )
    )
def F_X12_set (sh : List Sh) (f : Nat) (S : St) (p0 n0 : Nat) (p1 : Int32) : Option (St) :=
  F_X12_set_L2 sh f p0 n0 p1 f S (0 : Int32)
def F_X12_copies_L2 (sh : List Sh) (f : Nat) (p0 n0 : Nat) (p1 n1 : Nat) : Nat → St → Int32 → Option (St)
  | 0, _, _ => none
  | n + 1, S, l2 =>
    if (16 : Int32) ≤ l2 then (
      some S
    ) else (
      if l2 < 0 ∨ n1 ≤ l2.toNatClampNeg then none else
      if l2 < 0 ∨ n0 ≤ l2.toNatClampNeg then none else
      bnd (uA S p0 l2.toNatClampNeg (sA S p1 l2.toNatClampNeg)) fun S1 =>
      bnd (l2 + (1 : Int32)) fun x2 =>
      F_X12_copies_L2 sh f p0 n0 p1 n1 n S1 x2
    )
def F_X12_copies (sh : List Sh) (f : Nat) (S : St) (p0 n0 : Nat) (p1 n1 : Nat) : Option (St) :=
  F_X12_copies_L2 sh f p0 n0 p1 n1 f S (0 : Int32)
def F_X12_isZero_L4 (sh : List Sh) (f : Nat) (S : St) (p0 n0 : Nat) : Nat → Int32 → Int32 → Option (Int32)
  | 0, _, _ => none
  | n + 1, l1, l2 =>
    if (16 : Int32) ≤ l2 then (
      if ¬ (l1 = 0 ∨ l1 = 1) then none else
      some l1
    ) else (
      if l1 = 0 then (
        bnd (l2 + (1 : Int32)) fun x1 =>
        F_X12_isZero_L4 sh f S p0 n0 n (0 : Int32) x1
      ) else (
        if l2 < 0 ∨ n0 ≤ l2.toNatClampNeg then none else
        if (sA S p0 l2.toNatClampNeg) = 0 then (
          bnd (l2 + (1 : Int32)) fun x3 =>
          F_X12_isZero_L4 sh f S p0 n0 n (1 : Int32) x3
        ) else (
          bnd (l2 + (1 : Int32)) fun x2 =>
          F_X12_isZero_L4 sh f S p0 n0 n (0 : Int32) x2
        )
      )
    )
def F_X12_isZero (sh : List Sh) (f : Nat) (S : St) (p0 n0 : Nat) : Option (Int32) :=
  F_X12_isZero_L4 sh f S p0 n0 f (1 : Int32) (0 : Int32)
def F_X12_turns_L4 (sh : List Sh) (f : Nat) (p0 n0 : Nat) : Nat → St → Int64 → Int32 → Option (St)
  | 0, _, _, _ => none
  | n + 1, S, l1, l3 =>
    if (16 : Int32) ≤ l3 then (
      some S
    ) else (
      if l3 < 0 ∨ n0 ≤ l3.toNatClampNeg then none else
      bnd (l1 + ((((sA S p0 l3.toNatClampNeg) ^^^ (-1 : Int32)).toInt64) &&& (4294967295 : Int64))) fun x1 =>
      if l3 < 0 ∨ n0 ≤ l3.toNatClampNeg then none else
      bnd (uA S p0 l3.toNatClampNeg x1.toInt32) fun S2 =>
      bnd ((x1.toUInt64 >>> ((32 : Int32).toInt64.toUInt64 &&& Int64.toUInt64 63)).toInt64) fun x3 =>
      bnd (l3 + (1 : Int32)) fun x4 =>
      F_X12_turns_L4 sh f p0 n0 n S2 x3 x4
    )
def F_X12_turns (sh : List Sh) (f : Nat) (S : St) (p0 n0 : Nat) : Option (St) :=
  F_X12_turns_L4 sh f p0 n0 f S (1 : Int64) (0 : Int32)
def F_X12_adds_L5 (sh : List Sh) (f : Nat) (p0 n0 : Nat) (p1 n1 : Nat) : Nat → St → Int64 → Int32 → Option (St)
  | 0, _, _, _ => none
  | n + 1, S, l2, l4 =>
    if (16 : Int32) ≤ l4 then (
      some S
    ) else (
      if l4 < 0 ∨ n0 ≤ l4.toNatClampNeg then none else
      if l4 < 0 ∨ n1 ≤ l4.toNatClampNeg then none else
      bnd (l2 + ((((sA S p0 l4.toNatClampNeg).toInt64) &&& (4294967295 : Int64)) + (((sA S p1 l4.toNatClampNeg).toInt64) &&& (4294967295 : Int64)))) fun x1 =>
      if l4 < 0 ∨ n0 ≤ l4.toNatClampNeg then none else
      bnd (uA S p0 l4.toNatClampNeg x1.toInt32) fun S2 =>
      bnd ((x1.toUInt64 >>> ((32 : Int32).toInt64.toUInt64 &&& Int64.toUInt64 63)).toInt64) fun x3 =>
      bnd (l4 + (1 : Int32)) fun x4 =>
      F_X12_adds_L5 sh f p0 n0 p1 n1 n S2 x3 x4
    )
def F_X12_adds (sh : List Sh) (f : Nat) (S : St) (p0 n0 : Nat) (p1 n1 : Nat) : Option (St) :=
  F_X12_adds_L5 sh f p0 n0 p1 n1 f S (0 : Int64) (0 : Int32)
def F_X12_times_L12 (sh : List Sh) (f : Nat) (p0 n0 : Nat) (p1 : Int32) : Nat → St → Int64 → Int64 → Int32 → Option (St)
  | 0, _, _, _, _ => none
  | n + 1, S, l2, l4, l6 =>
    if (16 : Int32) ≤ l6 then (
      if 0 ≤ p1 then (
        some S
      ) else (
        (F_X12_turns sh f S p0 n0).bind fun y1 =>
        some y1
      )
    ) else (
      if l6 < 0 ∨ n0 ≤ l6.toNatClampNeg then none else
      bnd (l4 + ((((sA S p0 l6.toNatClampNeg).toInt64) &&& (4294967295 : Int64)) * l2)) fun x2 =>
      if l6 < 0 ∨ n0 ≤ l6.toNatClampNeg then none else
      bnd (uA S p0 l6.toNatClampNeg x2.toInt32) fun S3 =>
      bnd ((x2.toUInt64 >>> ((32 : Int32).toInt64.toUInt64 &&& Int64.toUInt64 63)).toInt64) fun x4 =>
      bnd (l6 + (1 : Int32)) fun x5 =>
      F_X12_times_L12 sh f p0 n0 p1 n S3 l2 x4 x5
    )
def F_X12_times (sh : List Sh) (f : Nat) (S : St) (p0 n0 : Nat) (p1 : Int32) : Option (St) :=
  (F_J9_abs_067f4 sh f S p1.toInt64).bind fun y1 =>
  F_X12_times_L12 sh f p0 n0 p1 f S y1 (0 : Int64) (0 : Int32)
def F_X12_halves_L2 (sh : List Sh) (f : Nat) (p0 n0 : Nat) : Nat → St → Int32 → Option (St)
  | 0, _, _ => none
  | n + 1, S, l1 =>
    if (16 : Int32) ≤ l1 then (
      some S
    ) else (
      if l1 < 0 ∨ n0 ≤ l1.toNatClampNeg then none else
      if (16 : Int32) ≤ (l1 + (1 : Int32)) then (
        if l1 < 0 ∨ n0 ≤ l1.toNatClampNeg then none else
        bnd (uA S p0 l1.toNatClampNeg ((((sA S p0 l1.toNatClampNeg).toUInt32 >>> ((1 : Int32).toUInt32 &&& Int32.toUInt32 31)).toInt32) ||| (0 : Int32))) fun S1 =>
        bnd (l1 + (1 : Int32)) fun x2 =>
        F_X12_halves_L2 sh f p0 n0 n S1 x2
      ) else (
        if (l1 + (1 : Int32)) < 0 ∨ n0 ≤ (l1 + (1 : Int32)).toNatClampNeg then none else
        if l1 < 0 ∨ n0 ≤ l1.toNatClampNeg then none else
        bnd (uA S p0 l1.toNatClampNeg ((((sA S p0 l1.toNatClampNeg).toUInt32 >>> ((1 : Int32).toUInt32 &&& Int32.toUInt32 31)).toInt32) ||| ((sA S p0 (l1 + (1 : Int32)).toNatClampNeg) <<< ((31 : Int32) &&& 31)))) fun S3 =>
        bnd (l1 + (1 : Int32)) fun x4 =>
        F_X12_halves_L2 sh f p0 n0 n S3 x4
      )
    )
def F_X12_halves (sh : List Sh) (f : Nat) (S : St) (p0 n0 : Nat) : Option (St) :=
  F_X12_halves_L2 sh f p0 n0 f S (0 : Int32)
def F_X12_isNoLess_L3 (sh : List Sh) (f : Nat) (S : St) (p0 n0 : Nat) (p1 n1 : Nat) : Nat → Int32 → Option (Int32)
  | 0, _ => none
  | n + 1, l2 =>
    if l2 < 0 then (
      some (1 : Int32)
    ) else (
      if l2 < 0 ∨ n0 ≤ l2.toNatClampNeg then none else
      bnd (((sA S p0 l2.toNatClampNeg).toInt64) &&& (4294967295 : Int64)) fun x1 =>
      if l2 < 0 ∨ n1 ≤ l2.toNatClampNeg then none else
      bnd (((sA S p1 l2.toNatClampNeg).toInt64) &&& (4294967295 : Int64)) fun x2 =>
      if (lg_cmp x1 x2) = 0 then (
        bnd (l2 + (-1 : Int32)) fun x3 =>
        F_X12_isNoLess_L3 sh f S p0 n0 p1 n1 n x3
      ) else (
        if (lg_cmp x1 x2) ≤ 0 then (
          some (0 : Int32)
        ) else (
          some (1 : Int32)
        )
      )
    )
def F_X12_isNoLess (sh : List Sh) (f : Nat) (S : St) (p0 n0 : Nat) (p1 n1 : Nat) : Option (Int32) :=
  F_X12_isNoLess_L3 sh f S p0 n0 p1 n1 f (15 : Int32)
