def F_X12_takesAway (sh : List Sh) (f : Nat) (S : St) (t : Nat) (p1 n1 : Nat) (p2 n2 : Nat) : Option (St) :=
  (F_X12_copies sh f S (t + 56) 16 p2 n2).bind fun y1 =>
  (F_X12_turns sh f y1 (t + 56) 16).bind fun y2 =>
  (F_X12_adds sh f y2 p1 n1 (t + 56) 16).bind fun y3 =>
  some y3
def F_X12_divisor_L63 (sh : List Sh) (f : Nat) (t : Nat) (p1 n1 : Nat) (p2 n2 : Nat) (k41 : St → Int32 → Option (St)) : Nat → St → Int32 → Option (St)
  | 0, _, _ => none
  | n + 1, S, l3 =>
    if (0 : Int32) < 0 ∨ n2 ≤ (0 : Int32).toNatClampNeg then none else
    if ((sA S p2 (0 : Int32).toNatClampNeg) &&& (1 : Int32)) = 0 then (
      (F_X12_halves sh f S p2 n2).bind fun y4 =>
      F_X12_divisor_L63 sh f t p1 n1 p2 n2 k41 n y4 l3
    ) else (
      (F_X12_isNoLess sh f S p2 n2 p1 n1).bind fun y1 =>
      if y1 = 0 then (
        (F_X12_takesAway sh f S t p1 n1 p2 n2).bind fun y2 =>
        k41 y2 l3
      ) else (
        (F_X12_takesAway sh f S t p2 n2 p1 n1).bind fun y3 =>
        k41 y3 l3
      )
    )
def F_X12_divisor_L48 (sh : List Sh) (f : Nat) (t : Nat) (p1 n1 : Nat) (p2 n2 : Nat) (k41 : St → Int32 → Option (St)) : Nat → St → Int32 → Option (St)
  | 0, _, _ => none
  | n + 1, S, l3 =>
    if (0 : Int32) < 0 ∨ n1 ≤ (0 : Int32).toNatClampNeg then none else
    if ((sA S p1 (0 : Int32).toNatClampNeg) &&& (1 : Int32)) = 0 then (
      (F_X12_halves sh f S p1 n1).bind fun y1 =>
      F_X12_divisor_L48 sh f t p1 n1 p2 n2 k41 n y1 l3
    ) else (
      F_X12_divisor_L63 sh f t p1 n1 p2 n2 k41 f S l3
    )
def F_X12_divisor_L107 (sh : List Sh) (f : Nat) (t : Nat) (p1 n1 : Nat) (p2 n2 : Nat) : Nat → St → Int32 → Int32 → Option (St)
  | 0, _, _, _ => none
  | n + 1, S, l3, l4 =>
    if l3 ≤ l4 then (
      some S
    ) else (
      (F_X12_adds sh f S p1 n1 p1 n1).bind fun y1 =>
      bnd (l4 + (1 : Int32)) fun x2 =>
      F_X12_divisor_L107 sh f t p1 n1 p2 n2 n y1 l3 x2
    )
def F_X12_divisor_L41 (sh : List Sh) (f : Nat) (t : Nat) (p1 n1 : Nat) (p2 n2 : Nat) : Nat → St → Int32 → Option (St)
  | 0, _, _ => none
  | n + 1, S, l3 =>
    (F_X12_isZero sh f S p2 n2).bind fun y1 =>
    if y1 = 0 then (
      F_X12_divisor_L48 sh f t p1 n1 p2 n2 (F_X12_divisor_L41 sh f t p1 n1 p2 n2 n) f S l3
    ) else (
      F_X12_divisor_L107 sh f t p1 n1 p2 n2 f S l3 (0 : Int32)
    )
def F_X12_divisor_L15 (sh : List Sh) (f : Nat) (t : Nat) (p1 n1 : Nat) (p2 n2 : Nat) : Nat → St → Int32 → Option (St)
  | 0, _, _ => none
  | n + 1, S, l3 =>
    if (0 : Int32) < 0 ∨ n1 ≤ (0 : Int32).toNatClampNeg then none else
    if (0 : Int32) < 0 ∨ n2 ≤ (0 : Int32).toNatClampNeg then none else
    if (((sA S p1 (0 : Int32).toNatClampNeg) ||| (sA S p2 (0 : Int32).toNatClampNeg)) &&& (1 : Int32)) = 0 then (
      (F_X12_halves sh f S p1 n1).bind fun y1 =>
      (F_X12_halves sh f y1 p2 n2).bind fun y2 =>
      bnd (l3 + (1 : Int32)) fun x3 =>
      F_X12_divisor_L15 sh f t p1 n1 p2 n2 n y2 x3
    ) else (
      F_X12_divisor_L41 sh f t p1 n1 p2 n2 f S l3
    )
def F_X12_divisor (sh : List Sh) (f : Nat) (S : St) (t : Nat) (p1 n1 : Nat) (p2 n2 : Nat) : Option (St) :=
  (F_X12_isZero sh f S p1 n1).bind fun y1 =>
  if y1 = 0 then (
    F_X12_divisor_L15 sh f t p1 n1 p2 n2 f S (0 : Int32)
  ) else (
    (F_X12_copies sh f S p1 n1 p2 n2).bind fun y2 =>
    some y2
  )
def F_X12_divides_L35 (sh : List Sh) (f : Nat) (t : Nat) (p1 n1 : Nat) (p2 n2 : Nat) : Nat → St → Int32 → Option (St)
  | 0, _, _ => none
  | n + 1, S, l3 =>
    if l3 < 0 then (
      (F_X12_copies sh f S p1 n1 (t + 54) 16).bind fun y1 =>
      some y1
    ) else (
      (F_X12_adds sh f S (t + 55) 16 (t + 55) 16).bind fun y2 =>
      if (0 : Int32) < 0 ∨ 16 ≤ (0 : Int32).toNatClampNeg then none else
      if (l3 / (32 : Int32)) < 0 ∨ n1 ≤ (l3 / (32 : Int32)).toNatClampNeg then none else
      if (0 : Int32) < 0 ∨ 16 ≤ (0 : Int32).toNatClampNeg then none else
      bnd (uA y2 (t + 55) (0 : Int32).toNatClampNeg ((sA y2 (t + 55) (0 : Int32).toNatClampNeg) ||| ((((sA y2 p1 (l3 / (32 : Int32)).toNatClampNeg).toUInt32 >>> ((l3 - l3 / (32 : Int32) * (32 : Int32)).toUInt32 &&& Int32.toUInt32 31)).toInt32) &&& (1 : Int32)))) fun S3 =>
      (F_X12_adds sh f S3 (t + 54) 16 (t + 54) 16).bind fun y4 =>
      (F_X12_isNoLess sh f y4 (t + 55) 16 p2 n2).bind fun y5 =>
      if y5 = 0 then (
        bnd (l3 + (-1 : Int32)) fun x9 =>
        F_X12_divides_L35 sh f t p1 n1 p2 n2 n y4 x9
      ) else (
        (F_X12_adds sh f y4 (t + 55) 16 (t + 56) 16).bind fun y6 =>
        if (0 : Int32) < 0 ∨ 16 ≤ (0 : Int32).toNatClampNeg then none else
        if (0 : Int32) < 0 ∨ 16 ≤ (0 : Int32).toNatClampNeg then none else
        bnd (uA y6 (t + 54) (0 : Int32).toNatClampNeg ((sA y6 (t + 54) (0 : Int32).toNatClampNeg) ||| (1 : Int32))) fun S7 =>
        bnd (l3 + (-1 : Int32)) fun x8 =>
        F_X12_divides_L35 sh f t p1 n1 p2 n2 n S7 x8
      )
    )
def F_X12_divides (sh : List Sh) (f : Nat) (S : St) (t : Nat) (p1 n1 : Nat) (p2 n2 : Nat) : Option (St) :=
  (F_X12_set sh f S (t + 54) 16 (0 : Int32)).bind fun y1 =>
  (F_X12_set sh f y1 (t + 55) 16 (0 : Int32)).bind fun y2 =>
  (F_X12_copies sh f y2 (t + 56) 16 p2 n2).bind fun y3 =>
  (F_X12_turns sh f y3 (t + 56) 16).bind fun y4 =>
  F_X12_divides_L35 sh f t p1 n1 p2 n2 f y4 (511 : Int32)
def F_X12_lowers_L27 (sh : List Sh) (f : Nat) (t : Nat) : St → Int32 → Option (St) := fun S l1 =>
  (F_X12_copies sh f S (t + 52) 16 (t + 50) 16).bind fun y1 =>
  (F_X12_copies sh f y1 (t + 53) 16 (t + 51) 16).bind fun y2 =>
  (F_X12_divisor sh f y2 t (t + 52) 16 (t + 53) 16).bind fun y3 =>
  (F_X12_divides sh f y3 t (t + 50) 16 (t + 52) 16).bind fun y4 =>
  (F_X12_divides sh f y4 t (t + 51) 16 (t + 52) 16).bind fun y5 =>
  if l1 = 0 then (
    some y5
  ) else (
    (F_X12_turns sh f y5 (t + 50) 16).bind fun y6 =>
    some y6
  )
def F_X12_lowers_L15 (sh : List Sh) (f : Nat) (t : Nat) : St → Int32 → Option (St) := fun S v0 =>
  if v0 = 0 then (
    F_X12_lowers_L27 sh f t S v0
  ) else (
    (F_X12_turns sh f S (t + 50) 16).bind fun y1 =>
    F_X12_lowers_L27 sh f t y1 v0
  )
def F_X12_lowers (sh : List Sh) (f : Nat) (S : St) (t : Nat) : Option (St) :=
  if (15 : Int32) < 0 ∨ 16 ≤ (15 : Int32).toNatClampNeg then none else
  if 0 ≤ (sA S (t + 50) (15 : Int32).toNatClampNeg) then (
    F_X12_lowers_L15 sh f t S (0 : Int32)
  ) else (
    F_X12_lowers_L15 sh f t S (1 : Int32)
  )
def F_X12_longOf (sh : List Sh) (f : Nat) (S : St) (p0 n0 : Nat) : Option (Int64) :=
  if (1 : Int32) < 0 ∨ n0 ≤ (1 : Int32).toNatClampNeg then none else
  if (0 : Int32) < 0 ∨ n0 ≤ (0 : Int32).toNatClampNeg then none else
  some ((((sA S p0 (1 : Int32).toNatClampNeg).toInt64) <<< ((32 : Int32).toInt64 &&& 63)) ||| (((sA S p0 (0 : Int32).toNatClampNeg).toInt64) &&& (4294967295 : Int64)))
def F_X12_isBeyond_L4 (sh : List Sh) (f : Nat) (S : St) (t : Nat) (p1 n1 : Nat) : Nat → Int32 → Int32 → Option (Int32)
  | 0, _, _ => none
  | n + 1, l2, l3 =>
    if (16 : Int32) ≤ l3 then (
      if l2 = 0 then (
        if (1 : Int32) < 0 ∨ n1 ≤ (1 : Int32).toNatClampNeg then none else
        if (sA S p1 (1 : Int32).toNatClampNeg) < 0 then (
          some (1 : Int32)
        ) else (
          (F_X12_longOf sh f S p1 n1).bind fun y1 =>
          if (lg_cmp y1 (900000000000000000 : Int64)) ≤ 0 then (
            some (0 : Int32)
          ) else (
            some (1 : Int32)
          )
        )
      ) else (
        some (1 : Int32)
      )
    ) else (
      if l2 = 0 then (
        if l3 < 0 ∨ n1 ≤ l3.toNatClampNeg then none else
        if (sA S p1 l3.toNatClampNeg) = 0 then (
          bnd (l3 + (1 : Int32)) fun x3 =>
          F_X12_isBeyond_L4 sh f S t p1 n1 n (0 : Int32) x3
        ) else (
          bnd (l3 + (1 : Int32)) fun x4 =>
          F_X12_isBeyond_L4 sh f S t p1 n1 n (1 : Int32) x4
        )
      ) else (
        bnd (l3 + (1 : Int32)) fun x2 =>
        F_X12_isBeyond_L4 sh f S t p1 n1 n (1 : Int32) x2
      )
    )
def F_X12_isBeyond (sh : List Sh) (f : Nat) (S : St) (t : Nat) (p1 n1 : Nat) : Option (Int32) :=
  F_X12_isBeyond_L4 sh f S t p1 n1 f (0 : Int32) (2 : Int32)
def F_X12_told_L27 (sh : List Sh) (f : Nat) (t : Nat) (p1 : Int32) : St → Int32 → Option (Int64 × St) := fun S l2 =>
  (F_X12_isBeyond sh f S t (t + 50) 16).bind fun y1 =>
  if y1 = 0 then (
    (F_X12_isBeyond sh f S t (t + 51) 16).bind fun y2 =>
    if y2 = 0 then (
      if p1 = 0 then (
        if l2 = 0 then (
          (F_X12_longOf sh f S (t + 50) 16).bind fun y3 =>
          some (y3, S)
        ) else (
          (F_X12_longOf sh f S (t + 50) 16).bind fun y4 =>
          some ((-y4), S)
        )
      ) else (
        (F_X12_longOf sh f S (t + 51) 16).bind fun y5 =>
        some (y5, S)
      )
    ) else (
      some ((-9223372036854775808 : Int64), S)
    )
  ) else (
    some ((-9223372036854775808 : Int64), S)
  )
def F_X12_told_L15 (sh : List Sh) (f : Nat) (t : Nat) (p1 : Int32) : St → Int32 → Option (Int64 × St) := fun S v0 =>
  if v0 = 0 then (
    F_X12_told_L27 sh f t p1 S v0
  ) else (
    (F_X12_turns sh f S (t + 50) 16).bind fun y1 =>
    F_X12_told_L27 sh f t p1 y1 v0
  )
def F_X12_told (sh : List Sh) (f : Nat) (S : St) (t : Nat) (p1 : Int32) : Option (Int64 × St) :=
  if (15 : Int32) < 0 ∨ 16 ≤ (15 : Int32).toNatClampNeg then none else
  if 0 ≤ (sA S (t + 50) (15 : Int32).toNatClampNeg) then (
    F_X12_told_L15 sh f t p1 S (0 : Int32)
  ) else (
    F_X12_told_L15 sh f t p1 S (1 : Int32)
  )
def F_X12_hasPowers_L26 (sh : List Sh) (f : Nat) (t : Nat) (p1 : Nat) (p2 : Int32) (p3 : Int32) (p4 : Int32) (p5 : Int32) : Nat → St → Int32 → Option (Int32 × St)
  | 0, _, _ => none
  | n + 1, S, l6 =>
    if (sI S p1 1) ≤ l6 then (
      if (0 : Int32) < 0 ∨ 3 ≤ (0 : Int32).toNatClampNeg then none else
      if (sA S (t + 57) (0 : Int32).toNatClampNeg) = p3 then (
        if (1 : Int32) < 0 ∨ 3 ≤ (1 : Int32).toNatClampNeg then none else
        if (sA S (t + 57) (1 : Int32).toNatClampNeg) = p4 then (
          if (2 : Int32) < 0 ∨ 3 ≤ (2 : Int32).toNatClampNeg then none else
          if (sA S (t + 57) (2 : Int32).toNatClampNeg) = p5 then (
            some ((1 : Int32), S)
          ) else (
            some ((0 : Int32), S)
          )
        ) else (
          some ((0 : Int32), S)
        )
      ) else (
        some ((0 : Int32), S)
      )
    ) else (
      (sR S t 5).bind fun b1 =>
      if ckX9 sh b1 = true then (
        if (((3 : Int32) * p2) + l6) < 0 ∨ 600 ≤ (((3 : Int32) * p2) + l6).toNatClampNeg then none else
        if (sA S (p1 + 3) (((3 : Int32) * p2) + l6).toNatClampNeg) < 0 ∨ 4 ≤ (sA S (p1 + 3) (((3 : Int32) * p2) + l6).toNatClampNeg).toNatClampNeg then none else
        if (sA S (b1 + 9) (sA S (p1 + 3) (((3 : Int32) * p2) + l6).toNatClampNeg).toNatClampNeg) < 0 ∨ 3 ≤ (sA S (b1 + 9) (sA S (p1 + 3) (((3 : Int32) * p2) + l6).toNatClampNeg).toNatClampNeg).toNatClampNeg then none else
        if (sA S (b1 + 9) (sA S (p1 + 3) (((3 : Int32) * p2) + l6).toNatClampNeg).toNatClampNeg) < 0 ∨ 3 ≤ (sA S (b1 + 9) (sA S (p1 + 3) (((3 : Int32) * p2) + l6).toNatClampNeg).toNatClampNeg).toNatClampNeg then none else
        bnd (uA S (t + 57) (sA S (b1 + 9) (sA S (p1 + 3) (((3 : Int32) * p2) + l6).toNatClampNeg).toNatClampNeg).toNatClampNeg ((sA S (t + 57) (sA S (b1 + 9) (sA S (p1 + 3) (((3 : Int32) * p2) + l6).toNatClampNeg).toNatClampNeg).toNatClampNeg) + (1 : Int32))) fun S2 =>
        bnd (l6 + (1 : Int32)) fun x3 =>
        F_X12_hasPowers_L26 sh f t p1 p2 p3 p4 p5 n S2 x3
      ) else none
    )
def F_X12_hasPowers_L3 (sh : List Sh) (f : Nat) (t : Nat) (p1 : Nat) (p2 : Int32) (p3 : Int32) (p4 : Int32) (p5 : Int32) : Nat → St → Int32 → Option (Int32 × St)
  | 0, _, _ => none
  | n + 1, S, l6 =>
    if (3 : Int32) ≤ l6 then (
      F_X12_hasPowers_L26 sh f t p1 p2 p3 p4 p5 f S (0 : Int32)
    ) else (
      if l6 < 0 ∨ 3 ≤ l6.toNatClampNeg then none else
      bnd (uA S (t + 57) l6.toNatClampNeg (0 : Int32)) fun S1 =>
      bnd (l6 + (1 : Int32)) fun x2 =>
      F_X12_hasPowers_L3 sh f t p1 p2 p3 p4 p5 n S1 x2
    )
def F_X12_hasPowers (sh : List Sh) (f : Nat) (S : St) (t : Nat) (p1 : Nat) (p2 : Int32) (p3 : Int32) (p4 : Int32) (p5 : Int32) : Option (Int32 × St) :=
  F_X12_hasPowers_L3 sh f t p1 p2 p3 p4 p5 f S (0 : Int32)
def F_X12_areOf (sh : List Sh) (f : Nat) (S : St) (t : Nat) (p1 : Int32) (p2 : Int32) (p3 : Int32) : Option (Int32) :=
  if (sI S t 18) = 0 then (
    some (0 : Int32)
  ) else (
    if p1 < 0 then (
      some (0 : Int32)
    ) else (
      if p2 < 0 then (
        some (0 : Int32)
      ) else (
        if p3 < 0 then (
          some (0 : Int32)
        ) else (
          if (lg_cmp ((p1.toInt64 + p2.toInt64) + p3.toInt64) ((sI S (t + 17) 1).toInt64)) = 0 then (
            some (1 : Int32)
          ) else (
            some (0 : Int32)
          )
        )
      )
    )
  )
def F_X12_worths_L5 (sh : List Sh) (f : Nat) (S : St) (t : Nat) (p1 : Nat) (p2 : Int32) : Nat → Int32 → Int32 → Option (Int32)
  | 0, _, _ => none
  | n + 1, l3, l4 =>
    if (sI S p1 1) ≤ l4 then (
      some l3
    ) else (
      (sR S t 5).bind fun b1 =>
      if ckX9 sh b1 = true then (
        if (((3 : Int32) * p2) + l4) < 0 ∨ 600 ≤ (((3 : Int32) * p2) + l4).toNatClampNeg then none else
        if (sA S (p1 + 3) (((3 : Int32) * p2) + l4).toNatClampNeg) < 0 ∨ 4 ≤ (sA S (p1 + 3) (((3 : Int32) * p2) + l4).toNatClampNeg).toNatClampNeg then none else
        bnd (l3 * (sA S (b1 + 8) (sA S (p1 + 3) (((3 : Int32) * p2) + l4).toNatClampNeg).toNatClampNeg)) fun x2 =>
        bnd (l4 + (1 : Int32)) fun x3 =>
        F_X12_worths_L5 sh f S t p1 p2 n x2 x3
      ) else none
    )
def F_X12_worths (sh : List Sh) (f : Nat) (S : St) (t : Nat) (p1 : Nat) (p2 : Int32) : Option (Int32) :=
  F_X12_worths_L5 sh f S t p1 p2 f (1 : Int32) (0 : Int32)
def F_X12_comes_L61 (sh : List Sh) (f : Nat) (t : Nat) (p1 : Nat) (p2 : Int32) (p3 : Int32) : Nat → St → Int32 → Option (St)
  | 0, _, _ => none
  | n + 1, S, l4 =>
    if (sI S t 25) ≤ l4 then (
      (F_X12_adds sh f S (t + 50) 16 (t + 52) 16).bind fun y1 =>
      (F_X12_lowers sh f y1 t).bind fun y2 =>
      some y2
    ) else (
      (F_X12_isInner sh f S t l4).bind fun y3 =>
      if y3 = 0 then (
        bnd (l4 + (1 : Int32)) fun x9 =>
        F_X12_comes_L61 sh f t p1 p2 p3 n S x9
      ) else (
        (sR S t 5).bind fun b4 =>
        if ckX9 sh b4 = true then (
          if l4 < 0 ∨ 12 ≤ l4.toNatClampNeg then none else
          if (sA S (t + 38) l4.toNatClampNeg) < 0 ∨ 8 ≤ (sA S (t + 38) l4.toNatClampNeg).toNatClampNeg then none else
          (F_X12_times sh f S (t + 50) 16 (sA S (b4 + 3) (sA S (t + 38) l4.toNatClampNeg).toNatClampNeg)).bind fun y5 =>
          (sR y5 t 5).bind fun b6 =>
          if ckX9 sh b6 = true then (
            if l4 < 0 ∨ 12 ≤ l4.toNatClampNeg then none else
            if (sA y5 (t + 38) l4.toNatClampNeg) < 0 ∨ 8 ≤ (sA y5 (t + 38) l4.toNatClampNeg).toNatClampNeg then none else
            (F_X12_times sh f y5 (t + 51) 16 (sA y5 (b6 + 3) (sA y5 (t + 38) l4.toNatClampNeg).toNatClampNeg)).bind fun y7 =>
            bnd (l4 + (1 : Int32)) fun x8 =>
            F_X12_comes_L61 sh f t p1 p2 p3 n y7 x8
          ) else none
        ) else none
      )
    )
def F_X12_comes (sh : List Sh) (f : Nat) (S : St) (t : Nat) (p1 : Nat) (p2 : Int32) (p3 : Int32) : Option (St) :=
  (F_X12_copies sh f S (t + 52) 16 (t + 51) 16).bind fun y1 =>
  (F_X12_times sh f y1 (t + 52) 16 p3).bind fun y2 =>
  (F_X12_worths sh f y2 t p1 p2).bind fun y3 =>
  (F_X12_times sh f y2 (t + 52) 16 y3).bind fun y4 =>
  if p2 < 0 ∨ 200 ≤ p2.toNatClampNeg then none else
  (F_X12_times sh f y4 (t + 50) 16 (sA y4 (p1 + 5) p2.toNatClampNeg)).bind fun y5 =>
  if p2 < 0 ∨ 200 ≤ p2.toNatClampNeg then none else
  (F_X12_times sh f y5 (t + 51) 16 (sA y5 (p1 + 5) p2.toNatClampNeg)).bind fun y6 =>
  F_X12_comes_L61 sh f t p1 p2 p3 f y6 (0 : Int32)
def F_X12_sum_L49 (sh : List Sh) (f : Nat) (t : Nat) (p1 : Int32) (p2 : Int32) (p3 : Int32) (p4 : Int32) : Nat → St → Int32 → Option (Int64 × St)
  | 0, _, _ => none
  | n + 1, S, l5 =>
    if (sI S (t + 17) 0) ≤ l5 then (
      (F_X12_told sh f S t p4).bind fun y1 =>
      some (y1.1, y1.2)
    ) else (
      (F_X12_hasPowers sh f S t (t + 17) l5 p1 p2 p3).bind fun y2 =>
      if y2.1 = 0 then (
        bnd (l5 + (1 : Int32)) fun x7 =>
        F_X12_sum_L49 sh f t p1 p2 p3 p4 n y2.2 x7
      ) else (
        (F_X12_shows sh f y2.2 t (t + 17) l5).bind fun y3 =>
        (F_X12_signHere sh f y3 t).bind fun y4 =>
        if l5 < 0 ∨ 200 ≤ l5.toNatClampNeg then none else
        (F_X12_comes sh f y3 t (t + 17) l5 (y4 * (sA y3 ((t + 17) + 4) l5.toNatClampNeg))).bind fun y5 =>
        bnd (l5 + (1 : Int32)) fun x6 =>
        F_X12_sum_L49 sh f t p1 p2 p3 p4 n y5 x6
      )
    )
def F_X12_sum (sh : List Sh) (f : Nat) (S : St) (t : Nat) (p1 : Int32) (p2 : Int32) (p3 : Int32) (p4 : Int32) : Option (Int64 × St) :=
  bnd (uI S t 0 (0 : Int32)) fun S1 =>
  (F_X12_areOf sh f S1 t p1 p2 p3).bind fun y2 =>
  if y2 = 0 then (
    some ((-9223372036854775808 : Int64), S1)
  ) else (
    (F_X12_set sh f S1 (t + 50) 16 (0 : Int32)).bind fun y3 =>
    (F_X12_set sh f y3 (t + 51) 16 (1 : Int32)).bind fun y4 =>
    bnd (uI y4 t 40 (sI y4 (t + 17) 1)) fun S5 =>
    F_X12_sum_L49 sh f t p1 p2 p3 p4 f S5 (0 : Int32)
  )
def F_X12_byPairings_L300 (sh : List Sh) (f : Nat) (t : Nat) (p1 : Int32) (p2 : Int32) (p3 : Int32) (p4 : Int32) (k196 : St → Int32 → Int32 → Int32 → Option (Int64 × St)) : St → Int32 → Int32 → Int32 → Int64 → Int32 → Option (Int64 × St) := fun S l5 l8 l9 l10 l12 =>
  if l12 = l8 then (
    if l8 < 0 ∨ 800 ≤ l8.toNatClampNeg then none else
    bnd (uL S (t + 58) l8.toNatClampNeg l10) fun S4 =>
    if l9 < 0 ∨ 10395 ≤ l9.toNatClampNeg then none else
    if l8 < 0 ∨ 800 ≤ l8.toNatClampNeg then none else
    bnd (uL S4 (t + 59) l8.toNatClampNeg (sL S4 (t + 43) l9.toNatClampNeg)) fun S5 =>
    if l8 < 0 ∨ 800 ≤ l8.toNatClampNeg then none else
    bnd (uA S5 (t + 60) l8.toNatClampNeg (0 : Int32)) fun S6 =>
    bnd (l8 + (1 : Int32)) fun x7 =>
    if l12 < 0 ∨ 800 ≤ l12.toNatClampNeg then none else
    (F_X12_signHere sh f S6 t).bind fun y8 =>
    if l12 < 0 ∨ 800 ≤ l12.toNatClampNeg then none else
    bnd (uA S6 (t + 60) l12.toNatClampNeg ((sA S6 (t + 60) l12.toNatClampNeg) + y8)) fun S9 =>
    bnd (l9 + (1 : Int32)) fun x10 =>
    k196 S9 l5 x7 x10
  ) else (
    if l12 < 0 ∨ 800 ≤ l12.toNatClampNeg then none else
    (F_X12_signHere sh f S t).bind fun y1 =>
    if l12 < 0 ∨ 800 ≤ l12.toNatClampNeg then none else
    bnd (uA S (t + 60) l12.toNatClampNeg ((sA S (t + 60) l12.toNatClampNeg) + y1)) fun S2 =>
    bnd (l9 + (1 : Int32)) fun x3 =>
    k196 S2 l5 l8 x3
  )
def F_X12_byPairings_L274 (sh : List Sh) (f : Nat) (t : Nat) (p1 : Int32) (p2 : Int32) (p3 : Int32) (p4 : Int32) (k196 : St → Int32 → Int32 → Int32 → Option (Int64 × St)) : Nat → St → Int32 → Int32 → Int32 → Int64 → Int32 → Option (Int64 × St)
  | 0, _, _, _, _, _, _ => none
  | n + 1, S, l5, l8, l9, l10, l12 =>
    if l8 ≤ l12 then (
      F_X12_byPairings_L300 sh f t p1 p2 p3 p4 k196 S l5 l8 l9 l10 l12
    ) else (
      if l12 < 0 ∨ 800 ≤ l12.toNatClampNeg then none else
      if (lg_cmp (sL S (t + 58) l12.toNatClampNeg) l10) = 0 then (
        F_X12_byPairings_L300 sh f t p1 p2 p3 p4 k196 S l5 l8 l9 l10 l12
      ) else (
        bnd (l12 + (1 : Int32)) fun x1 =>
        F_X12_byPairings_L274 sh f t p1 p2 p3 p4 k196 n S l5 l8 l9 l10 x1
      )
    )
def F_X12_byPairings_L222 (sh : List Sh) (f : Nat) (t : Nat) (p1 : Int32) (p2 : Int32) (p3 : Int32) (p4 : Int32) (k196 : St → Int32 → Int32 → Int32 → Option (Int64 × St)) : Nat → St → Int32 → Int32 → Int32 → Int64 → Int32 → Option (Int64 × St)
  | 0, _, _, _, _, _, _ => none
  | n + 1, S, l5, l8, l9, l10, l12 =>
    if (sI S t 25) ≤ l12 then (
      F_X12_byPairings_L274 sh f t p1 p2 p3 p4 k196 f S l5 l8 l9 l10 (0 : Int32)
    ) else (
      (F_X12_isInner sh f S t l12).bind fun y1 =>
      if y1 = 0 then (
        bnd (l10 * (1 : Int64)) fun x2 =>
        bnd (l12 + (1 : Int32)) fun x3 =>
        F_X12_byPairings_L222 sh f t p1 p2 p3 p4 k196 n S l5 l8 l9 x2 x3
      ) else (
        (sR S t 5).bind fun b4 =>
        if ckX9 sh b4 = true then (
          if l12 < 0 ∨ 12 ≤ l12.toNatClampNeg then none else
          if (sA S (t + 38) l12.toNatClampNeg) < 0 ∨ 8 ≤ (sA S (t + 38) l12.toNatClampNeg).toNatClampNeg then none else
          bnd (l10 * ((sA S (b4 + 3) (sA S (t + 38) l12.toNatClampNeg).toNatClampNeg).toInt64)) fun x5 =>
          bnd (l12 + (1 : Int32)) fun x6 =>
          F_X12_byPairings_L222 sh f t p1 p2 p3 p4 k196 n S l5 l8 l9 x5 x6
        ) else none
      )
    )
def F_X12_byPairings_L364 (sh : List Sh) (f : Nat) (t : Nat) (p1 : Int32) (p2 : Int32) (p3 : Int32) (p4 : Int32) (k49 : St → Int32 → Option (Int64 × St)) : Nat → St → Int32 → Int32 → Int32 → Option (Int64 × St)
  | 0, _, _, _, _ => none
  | n + 1, S, l5, l8, l9 =>
    if l8 ≤ l9 then (
      bnd (l5 + (1 : Int32)) fun x1 =>
      k49 S x1
    ) else (
      if l9 < 0 ∨ 800 ≤ l9.toNatClampNeg then none else
      (F_X12_takes sh f S t (sL S (t + 59) l9.toNatClampNeg)).bind fun y2 =>
      if l9 < 0 ∨ 800 ≤ l9.toNatClampNeg then none else
      (F_X12_comes sh f y2 t (t + 17) l5 (sA y2 (t + 60) l9.toNatClampNeg)).bind fun y3 =>
      bnd (l9 + (1 : Int32)) fun x4 =>
      F_X12_byPairings_L364 sh f t p1 p2 p3 p4 k49 n y3 l5 l8 x4
    )
def F_X12_byPairings_L196 (sh : List Sh) (f : Nat) (t : Nat) (p1 : Int32) (p2 : Int32) (p3 : Int32) (p4 : Int32) (k49 : St → Int32 → Option (Int64 × St)) : Nat → St → Int32 → Int32 → Int32 → Option (Int64 × St)
  | 0, _, _, _, _ => none
  | n + 1, S, l5, l8, l9 =>
    if (sI S t 35) ≤ l9 then (
      F_X12_byPairings_L364 sh f t p1 p2 p3 p4 k49 f S l5 l8 (0 : Int32)
    ) else (
      if l9 < 0 ∨ 10395 ≤ l9.toNatClampNeg then none else
      (F_X12_takes sh f S t (sL S (t + 43) l9.toNatClampNeg)).bind fun y1 =>
      F_X12_byPairings_L222 sh f t p1 p2 p3 p4 (F_X12_byPairings_L196 sh f t p1 p2 p3 p4 k49 n) f y1 l5 l8 l9 (1 : Int64) (0 : Int32)
    )
def F_X12_byPairings_L141 (sh : List Sh) (f : Nat) (t : Nat) (p1 : Int32) (p2 : Int32) (p3 : Int32) (p4 : Int32) (k49 : St → Int32 → Option (Int64 × St)) : St → Int32 → Int32 → Option (Int64 × St) := fun S l5 l6 =>
  if l6 = 0 then (
    bnd (l5 + (1 : Int32)) fun x1 =>
    k49 S x1
  ) else (
    (F_X12_hasPowers sh f S t (t + 17) l5 p1 p2 p3).bind fun y2 =>
    if y2.1 = 0 then (
      bnd (l5 + (1 : Int32)) fun x6 =>
      k49 y2.2 x6
    ) else (
      (F_X12_lays sh f y2.2 t (t + 17) ((t + 17) + 3) 600 ((3 : Int32) * l5)).bind fun y3 =>
      bnd y3.1 fun x4 =>
      (F_X12_pairs sh f y3.2 t).bind fun y5 =>
      F_X12_byPairings_L196 sh f t p1 p2 p3 p4 k49 f y5 l5 (0 : Int32) (0 : Int32)
    )
  )
def F_X12_byPairings_L76 (sh : List Sh) (f : Nat) (t : Nat) (p1 : Int32) (p2 : Int32) (p3 : Int32) (p4 : Int32) (k49 : St → Int32 → Option (Int64 × St)) : Nat → St → Int32 → Int32 → Int32 → Option (Int64 × St)
  | 0, _, _, _, _ => none
  | n + 1, S, l5, l6, l7 =>
    if (sI S (t + 17) 1) ≤ l7 then (
      F_X12_byPairings_L141 sh f t p1 p2 p3 p4 k49 S l5 l6
    ) else (
      if l6 = 0 then (
        if (((3 : Int32) * l5) + l7) < 0 ∨ 600 ≤ (((3 : Int32) * l5) + l7).toNatClampNeg then none else
        if ((((3 : Int32) * l5) - (3 : Int32)) + l7) < 0 ∨ 600 ≤ ((((3 : Int32) * l5) - (3 : Int32)) + l7).toNatClampNeg then none else
        if (sA S ((t + 17) + 3) (((3 : Int32) * l5) + l7).toNatClampNeg) = (sA S ((t + 17) + 3) ((((3 : Int32) * l5) - (3 : Int32)) + l7).toNatClampNeg) then (
          bnd (l7 + (1 : Int32)) fun x1 =>
          F_X12_byPairings_L76 sh f t p1 p2 p3 p4 k49 n S l5 (0 : Int32) x1
        ) else (
          bnd (l7 + (1 : Int32)) fun x2 =>
          F_X12_byPairings_L76 sh f t p1 p2 p3 p4 k49 n S l5 (1 : Int32) x2
        )
      ) else (
        F_X12_byPairings_L141 sh f t p1 p2 p3 p4 k49 S l5 l6
      )
    )
def F_X12_byPairings_L49 (sh : List Sh) (f : Nat) (t : Nat) (p1 : Int32) (p2 : Int32) (p3 : Int32) (p4 : Int32) : Nat → St → Int32 → Option (Int64 × St)
  | 0, _, _ => none
  | n + 1, S, l5 =>
    if (sI S (t + 17) 0) ≤ l5 then (
      (F_X12_told sh f S t p4).bind fun y1 =>
      some (y1.1, y1.2)
    ) else (
      if l5 = 0 then (
        F_X12_byPairings_L76 sh f t p1 p2 p3 p4 (F_X12_byPairings_L49 sh f t p1 p2 p3 p4 n) f S l5 (1 : Int32) (0 : Int32)
      ) else (
        F_X12_byPairings_L76 sh f t p1 p2 p3 p4 (F_X12_byPairings_L49 sh f t p1 p2 p3 p4 n) f S l5 (0 : Int32) (0 : Int32)
      )
    )
def F_X12_byPairings (sh : List Sh) (f : Nat) (S : St) (t : Nat) (p1 : Int32) (p2 : Int32) (p3 : Int32) (p4 : Int32) : Option (Int64 × St) :=
  bnd (uI S t 0 (0 : Int32)) fun S1 =>
  (F_X12_areOf sh f S1 t p1 p2 p3).bind fun y2 =>
  if y2 = 0 then (
    some ((-9223372036854775808 : Int64), S1)
  ) else (
    (F_X12_set sh f S1 (t + 50) 16 (0 : Int32)).bind fun y3 =>
    (F_X12_set sh f y3 (t + 51) 16 (1 : Int32)).bind fun y4 =>
    bnd (uI y4 t 40 (sI y4 (t + 17) 1)) fun S5 =>
    F_X12_byPairings_L49 sh f t p1 p2 p3 p4 f S5 (0 : Int32)
  )
