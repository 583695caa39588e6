def F_X12_worth (sh : List Sh) (f : Nat) (S : St) (t : Nat) (p1 : Int32) : Option (Int64 × St) :=
  bnd (uI S t 0 (0 : Int32)) fun S1 =>
  if p1 = 0 then (
    some ((sJ S1 t 53), S1)
  ) else (
    some ((sJ S1 t 54), S1)
  )
def F_X12_rest (sh : List Sh) (f : Nat) (S : St) (t : Nat) (p1 : Int32) : Option (Int32 × St) :=
  bnd (uI S t 0 (0 : Int32)) fun S1 =>
  (F_X12_in sh f S1 p1 (0 : Int32) (3 : Int32)).bind fun y2 =>
  if y2 = 0 then (
    some ((-1 : Int32), S1)
  ) else (
    if p1 < 0 ∨ 4 ≤ p1.toNatClampNeg then none else
    some ((sA S1 (t + 62) p1.toNatClampNeg), S1)
  )
def F_X12_pole (sh : List Sh) (f : Nat) (S : St) (t : Nat) : Option (Int32 × St) :=
  bnd (uI S t 0 (0 : Int32)) fun S1 =>
  some ((sI S1 t 4), S1)
def F_X12_count_L126 (sh : List Sh) (f : Nat) (t : Nat) (p1 : Int32) : Nat → St → Int32 → Int32 → Option (Int32 × St)
  | 0, _, _, _ => none
  | n + 1, S, l2, l3 =>
    if (sI S (t + 17) 0) ≤ l3 then (
      some (l2, S)
    ) else (
      (F_X12_shows sh f S t (t + 17) l3).bind fun y1 =>
      if p1 = (5 : Int32) then (
        (F_X12_inners sh f y1 t).bind fun y7 =>
        if y7 = ((sI y1 (t + 17) 1) - (1 : Int32)) then (
          bnd (l2 + (1 : Int32)) fun x10 =>
          bnd (l3 + (1 : Int32)) fun x11 =>
          F_X12_count_L126 sh f t p1 n y1 x10 x11
        ) else (
          bnd (l2 + (0 : Int32)) fun x8 =>
          bnd (l3 + (1 : Int32)) fun x9 =>
          F_X12_count_L126 sh f t p1 n y1 x8 x9
        )
      ) else (
        (F_X12_cuts sh f y1 t).bind fun y2 =>
        if y2.1 = 0 then (
          bnd (l2 + (1 : Int32)) fun x5 =>
          bnd (l3 + (1 : Int32)) fun x6 =>
          F_X12_count_L126 sh f t p1 n y2.2 x5 x6
        ) else (
          bnd (l2 + (0 : Int32)) fun x3 =>
          bnd (l3 + (1 : Int32)) fun x4 =>
          F_X12_count_L126 sh f t p1 n y2.2 x3 x4
        )
      )
    )
def F_X12_count (sh : List Sh) (f : Nat) (S : St) (t : Nat) (p1 : Int32) : Option (Int32 × St) :=
  bnd (uI S t 0 (0 : Int32)) fun S1 =>
  (F_X12_in sh f S1 p1 (0 : Int32) (7 : Int32)).bind fun y2 =>
  if y2 = 0 then (
    some ((-1 : Int32), S1)
  ) else (
    if p1 = (7 : Int32) then (
      some ((sI S1 t 9), S1)
    ) else (
      if p1 = (2 : Int32) then (
        some ((sI S1 t 17), S1)
      ) else (
        if (2 : Int32) ≤ p1 then (
          if (sI S1 t 18) = 0 then (
            some ((0 : Int32), S1)
          ) else (
            if p1 = (3 : Int32) then (
              some ((sI S1 (t + 17) 0), S1)
            ) else (
              if p1 = (4 : Int32) then (
                some ((sI S1 (t + 17) 1), S1)
              ) else (
                bnd (uI S1 t 40 (sI S1 (t + 17) 1)) fun S3 =>
                F_X12_count_L126 sh f t p1 f S3 (0 : Int32) (0 : Int32)
              )
            )
          )
        ) else (
          oN (sR S1 t 5) (
            some ((0 : Int32), S1)
          ) (
            if p1 = 0 then (
              (sR S1 t 5).bind fun b6 =>
              if ckX9 sh b6 = true then (
                some ((sI S1 b6 0), S1)
              ) else none
            ) else (
              (sR S1 t 5).bind fun b5 =>
              if ckX9 sh b5 = true then (
                some ((sI S1 b5 1), S1)
              ) else none
            )
          )
        )
      )
    )
  )
def F_X12_trouble (sh : List Sh) (f : Nat) (S : St) (t : Nat) : Option (Int32 × St) :=
  bnd (uI S t 0 (0 : Int32)) fun S1 =>
  some ((sI S1 t 1), S1)
def F_X2_clear_L23 (sh : List Sh) (f : Nat) (t : Nat) : Nat → St → Int32 → Option (St)
  | 0, _, _ => none
  | n + 1, S, l1 =>
    if (12 : Int32) ≤ l1 then (
      some S
    ) else (
      if l1 < 0 ∨ 12 ≤ l1.toNatClampNeg then none else
      bnd (uL S (t + 2) l1.toNatClampNeg (0 : Int64)) fun S1 =>
      bnd (l1 + (1 : Int32)) fun x2 =>
      F_X2_clear_L23 sh f t n S1 x2
    )
def F_X2_clear_L2 (sh : List Sh) (f : Nat) (t : Nat) : Nat → St → Int32 → Option (St)
  | 0, _, _ => none
  | n + 1, S, l1 =>
    if (25 : Int32) ≤ l1 then (
      F_X2_clear_L23 sh f t f S (0 : Int32)
    ) else (
      if l1 < 0 ∨ 25 ≤ l1.toNatClampNeg then none else
      bnd (uA S (t + 1) l1.toNatClampNeg (0 : Int32)) fun S1 =>
      bnd (l1 + (1 : Int32)) fun x2 =>
      F_X2_clear_L2 sh f t n S1 x2
    )
def F_X2_clear (sh : List Sh) (f : Nat) (S : St) (t : Nat) : Option (St) :=
  F_X2_clear_L2 sh f t f S (0 : Int32)
def F_X2_exponentOf_L5 (sh : List Sh) (f : Nat) (S : St) (p0 : Int32) (p1 : Int64) : Nat → Int32 → Int64 → Option (Int32)
  | 0, _, _ => none
  | n + 1, l3, l4 =>
    if (lg_cmp l4 (0 : Int64)) ≤ 0 then (
      some l3
    ) else (
      if (64 : Int32) ≤ l3 then (
        some l3
      ) else (
        if p0.toInt64 = 0 then none else
        if (lg_cmp (l4 - l4 / p0.toInt64 * p0.toInt64) (0 : Int64)) = 0 then (
          if p0.toInt64 = 0 then none else
          bnd (l4 / p0.toInt64) fun x1 =>
          bnd (l3 + (1 : Int32)) fun x2 =>
          F_X2_exponentOf_L5 sh f S p0 p1 n x2 x1
        ) else (
          some l3
        )
      )
    )
def F_X2_exponentOf (sh : List Sh) (f : Nat) (S : St) (p0 : Int32) (p1 : Int64) : Option (Int32) :=
  F_X2_exponentOf_L5 sh f S p0 p1 f (0 : Int32) p1
def F_X2_widen_L2 (sh : List Sh) (f : Nat) (t : Nat) (p1 : Int64) : Nat → St → Int32 → Option (St)
  | 0, _, _ => none
  | n + 1, S, l3 =>
    if (25 : Int32) ≤ l3 then (
      some S
    ) else (
      if l3 < 0 ∨ 25 ≤ l3.toNatClampNeg then none else
      if l3 < 0 ∨ 25 ≤ l3.toNatClampNeg then none else
      (F_X2_exponentOf sh f S (v_tf v_T1 l3.toNatClampNeg) p1).bind fun y2 =>
      (F_J9_max_7cf53 sh f S (sA S (t + 1) l3.toNatClampNeg) y2).bind fun y3 =>
      if l3 < 0 ∨ 25 ≤ l3.toNatClampNeg then none else
      bnd (uA S (t + 1) l3.toNatClampNeg y3) fun S4 =>
      bnd (l3 + (1 : Int32)) fun x5 =>
      F_X2_widen_L2 sh f t p1 n S4 x5
    )
def F_X2_widen (sh : List Sh) (f : Nat) (S : St) (t : Nat) (p1 : Int64) : Option (St) :=
  F_X2_widen_L2 sh f t p1 f S (0 : Int32)
def F_X2_multiplyTerm_L5 (sh : List Sh) (f : Nat) (t : Nat) (p1 : Int32) : Nat → St → Int64 → Int32 → Option (St)
  | 0, _, _, _ => none
  | n + 1, S, l2, l4 =>
    if (12 : Int32) ≤ l4 then (
      some S
    ) else (
      if l4 < 0 ∨ 12 ≤ l4.toNatClampNeg then none else
      bnd (l2 + ((sL S (t + 3) l4.toNatClampNeg) * p1.toInt64)) fun x1 =>
      if l4 < 0 ∨ 12 ≤ l4.toNatClampNeg then none else
      bnd (uL S (t + 3) l4.toNatClampNeg (x1 &&& (1073741823 : Int64))) fun S2 =>
      bnd (x1 >>> ((30 : Int32).toInt64 &&& 63)) fun x3 =>
      bnd (l4 + (1 : Int32)) fun x4 =>
      F_X2_multiplyTerm_L5 sh f t p1 n S2 x3 x4
    )
def F_X2_multiplyTerm (sh : List Sh) (f : Nat) (S : St) (t : Nat) (p1 : Int32) : Option (St) :=
  F_X2_multiplyTerm_L5 sh f t p1 f S (0 : Int64) (0 : Int32)
def F_X2_add_L71 (sh : List Sh) (f : Nat) (t : Nat) (p1 : Int64) (p3 : Int64) (k52 : St → Int32 → Option (St)) : Nat → St → Int32 → Int32 → Option (St)
  | 0, _, _, _ => none
  | n + 1, S, l7, l8 =>
    if l7 < 0 ∨ 25 ≤ l7.toNatClampNeg then none else
    if (sA S (t + 1) l7.toNatClampNeg) ≤ l8 then (
      bnd (l7 + (1 : Int32)) fun x1 =>
      k52 S x1
    ) else (
      if l7 < 0 ∨ 25 ≤ l7.toNatClampNeg then none else
      (F_X2_multiplyTerm sh f S t (v_tf v_T1 l7.toNatClampNeg)).bind fun y3 =>
      bnd (l8 + (1 : Int32)) fun x4 =>
      F_X2_add_L71 sh f t p1 p3 k52 n y3 l7 x4
    )
def F_X2_add_L108 (sh : List Sh) (f : Nat) (t : Nat) (p1 : Int64) (p3 : Int64) : Nat → St → Int32 → Option (St)
  | 0, _, _ => none
  | n + 1, S, l7 =>
    if (12 : Int32) ≤ l7 then (
      some S
    ) else (
      if l7 < 0 ∨ 12 ≤ l7.toNatClampNeg then none else
      if 0 ≤ (lg_cmp p1 (0 : Int64)) then (
        if l7 < 0 ∨ 12 ≤ l7.toNatClampNeg then none else
        if l7 < 0 ∨ 12 ≤ l7.toNatClampNeg then none else
        bnd (uL S (t + 2) l7.toNatClampNeg ((sL S (t + 2) l7.toNatClampNeg) + (sL S (t + 3) l7.toNatClampNeg))) fun S1 =>
        bnd (l7 + (1 : Int32)) fun x2 =>
        F_X2_add_L108 sh f t p1 p3 n S1 x2
      ) else (
        if l7 < 0 ∨ 12 ≤ l7.toNatClampNeg then none else
        if l7 < 0 ∨ 12 ≤ l7.toNatClampNeg then none else
        bnd (uL S (t + 2) l7.toNatClampNeg ((sL S (t + 2) l7.toNatClampNeg) + (-(sL S (t + 3) l7.toNatClampNeg)))) fun S3 =>
        bnd (l7 + (1 : Int32)) fun x4 =>
        F_X2_add_L108 sh f t p1 p3 n S3 x4
      )
    )
def F_X2_add_L52 (sh : List Sh) (f : Nat) (t : Nat) (p1 : Int64) (p3 : Int64) : Nat → St → Int32 → Option (St)
  | 0, _, _ => none
  | n + 1, S, l7 =>
    if (25 : Int32) ≤ l7 then (
      F_X2_add_L108 sh f t p1 p3 f S (0 : Int32)
    ) else (
      if l7 < 0 ∨ 25 ≤ l7.toNatClampNeg then none else
      (F_X2_exponentOf sh f S (v_tf v_T1 l7.toNatClampNeg) p3).bind fun y2 =>
      F_X2_add_L71 sh f t p1 p3 (F_X2_add_L52 sh f t p1 p3 n) f S l7 y2
    )
def F_X2_add_L16 (sh : List Sh) (f : Nat) (t : Nat) (p1 : Int64) (p3 : Int64) : Nat → St → Int64 → Int32 → Option (St)
  | 0, _, _, _ => none
  | n + 1, S, l5, l7 =>
    if (12 : Int32) ≤ l7 then (
      F_X2_add_L52 sh f t p1 p3 f S (0 : Int32)
    ) else (
      if l7 < 0 ∨ 12 ≤ l7.toNatClampNeg then none else
      bnd (uL S (t + 3) l7.toNatClampNeg (l5 &&& (1073741823 : Int64))) fun S1 =>
      bnd (l5 >>> ((30 : Int32).toInt64 &&& 63)) fun x2 =>
      bnd (l7 + (1 : Int32)) fun x3 =>
      F_X2_add_L16 sh f t p1 p3 n S1 x2 x3
    )
def F_X2_add (sh : List Sh) (f : Nat) (S : St) (t : Nat) (p1 : Int64) (p3 : Int64) : Option (St) :=
  if (lg_cmp p1 (0 : Int64)) = 0 then (
    some S
  ) else (
    (F_J9_abs_067f4 sh f S p1).bind fun y1 =>
    F_X2_add_L16 sh f t p1 p3 f S y1 (0 : Int32)
  )
def F_X2_carryOver_L5 (sh : List Sh) (f : Nat) (t : Nat) (p1 : Int32) : Nat → St → Int64 → Int32 → Option (Int64 × St)
  | 0, _, _, _ => none
  | n + 1, S, l2, l4 =>
    if (12 : Int32) ≤ l4 then (
      some (l2, S)
    ) else (
      if l4 < 0 ∨ 12 ≤ l4.toNatClampNeg then none else
      bnd (l2 + (sL S (t + 2) l4.toNatClampNeg)) fun x1 =>
      if p1 = 0 then (
        bnd (x1 >>> ((30 : Int32).toInt64 &&& 63)) fun x2 =>
        bnd (l4 + (1 : Int32)) fun x3 =>
        F_X2_carryOver_L5 sh f t p1 n S x2 x3
      ) else (
        if l4 < 0 ∨ 12 ≤ l4.toNatClampNeg then none else
        bnd (uL S (t + 2) l4.toNatClampNeg (x1 &&& (1073741823 : Int64))) fun S4 =>
        bnd (x1 >>> ((30 : Int32).toInt64 &&& 63)) fun x5 =>
        bnd (l4 + (1 : Int32)) fun x6 =>
        F_X2_carryOver_L5 sh f t p1 n S4 x5 x6
      )
    )
def F_X2_carryOver (sh : List Sh) (f : Nat) (S : St) (t : Nat) (p1 : Int32) : Option (Int64 × St) :=
  F_X2_carryOver_L5 sh f t p1 f S (0 : Int64) (0 : Int32)
def F_X2_isDivisible_L6 (sh : List Sh) (f : Nat) (S : St) (t : Nat) (p1 : Int32) : Nat → Int64 → Int32 → Option (Int32)
  | 0, _, _ => none
  | n + 1, l2, l4 =>
    if l4 < 0 then (
      if (lg_cmp l2 (0 : Int64)) = 0 then (
        some (1 : Int32)
      ) else (
        some (0 : Int32)
      )
    ) else (
      if l4 < 0 ∨ 12 ≤ l4.toNatClampNeg then none else
      if p1.toInt64 = 0 then none else
      bnd (((l2 <<< ((30 : Int32).toInt64 &&& 63)) + (sL S (t + 2) l4.toNatClampNeg)) - ((l2 <<< ((30 : Int32).toInt64 &&& 63)) + (sL S (t + 2) l4.toNatClampNeg)) / p1.toInt64 * p1.toInt64) fun x1 =>
      bnd (l4 + (-1 : Int32)) fun x2 =>
      F_X2_isDivisible_L6 sh f S t p1 n x1 x2
    )
def F_X2_isDivisible (sh : List Sh) (f : Nat) (S : St) (t : Nat) (p1 : Int32) : Option (Int32) :=
  F_X2_isDivisible_L6 sh f S t p1 f (0 : Int64) (11 : Int32)
def F_X2_divide_L6 (sh : List Sh) (f : Nat) (t : Nat) (p1 : Int32) : Nat → St → Int64 → Int32 → Option (St)
  | 0, _, _, _ => none
  | n + 1, S, l2, l4 =>
    if l4 < 0 then (
      some S
    ) else (
      if l4 < 0 ∨ 12 ≤ l4.toNatClampNeg then none else
      bnd ((l2 <<< ((30 : Int32).toInt64 &&& 63)) + (sL S (t + 2) l4.toNatClampNeg)) fun x1 =>
      if p1.toInt64 = 0 then none else
      if l4 < 0 ∨ 12 ≤ l4.toNatClampNeg then none else
      bnd (uL S (t + 2) l4.toNatClampNeg (x1 / p1.toInt64)) fun S2 =>
      if p1.toInt64 = 0 then none else
      bnd (x1 - x1 / p1.toInt64 * p1.toInt64) fun x3 =>
      bnd (l4 + (-1 : Int32)) fun x4 =>
      F_X2_divide_L6 sh f t p1 n S2 x3 x4
    )
def F_X2_divide (sh : List Sh) (f : Nat) (S : St) (t : Nat) (p1 : Int32) : Option (St) :=
  F_X2_divide_L6 sh f t p1 f S (0 : Int64) (11 : Int32)
def F_X2_numeratorSize_L2 (sh : List Sh) (f : Nat) (S : St) (t : Nat) : Nat → Int32 → Option (Int64)
  | 0, _ => none
  | n + 1, l1 =>
    if (12 : Int32) ≤ l1 then (
      if (1 : Int32) < 0 ∨ 12 ≤ (1 : Int32).toNatClampNeg then none else
      if (0 : Int32) < 0 ∨ 12 ≤ (0 : Int32).toNatClampNeg then none else
      some (((sL S (t + 2) (1 : Int32).toNatClampNeg) <<< ((30 : Int32).toInt64 &&& 63)) + (sL S (t + 2) (0 : Int32).toNatClampNeg))
    ) else (
      if l1 < 0 ∨ 12 ≤ l1.toNatClampNeg then none else
      if (lg_cmp (sL S (t + 2) l1.toNatClampNeg) (0 : Int64)) = 0 then (
        bnd (l1 + (1 : Int32)) fun x1 =>
        F_X2_numeratorSize_L2 sh f S t n x1
      ) else (
        some (900000000000000001 : Int64)
      )
    )
def F_X2_numeratorSize (sh : List Sh) (f : Nat) (S : St) (t : Nat) : Option (Int64) :=
  F_X2_numeratorSize_L2 sh f S t f (2 : Int32)
def F_X2_denominatorSize_L13 (sh : List Sh) (f : Nat) (S : St) (t : Nat) (k4 : Int64 → Int32 → Option (Int64)) : Nat → Int64 → Int32 → Int32 → Option (Int64)
  | 0, _, _, _ => none
  | n + 1, l1, l3, l4 =>
    if l3 < 0 ∨ 25 ≤ l3.toNatClampNeg then none else
    if (sA S (t + 1) l3.toNatClampNeg) ≤ l4 then (
      bnd (l3 + (1 : Int32)) fun x1 =>
      k4 l1 x1
    ) else (
      if l3 < 0 ∨ 25 ≤ l3.toNatClampNeg then none else
      if ((v_tf v_T1 l3.toNatClampNeg).toInt64) = 0 then none else
      if (lg_cmp l1 ((900000000000000000 : Int64) / ((v_tf v_T1 l3.toNatClampNeg).toInt64))) ≤ 0 then (
        if l3 < 0 ∨ 25 ≤ l3.toNatClampNeg then none else
        bnd (l1 * ((v_tf v_T1 l3.toNatClampNeg).toInt64)) fun x4 =>
        bnd (l4 + (1 : Int32)) fun x5 =>
        F_X2_denominatorSize_L13 sh f S t k4 n x4 l3 x5
      ) else (
        some (900000000000000001 : Int64)
      )
    )
def F_X2_denominatorSize_L4 (sh : List Sh) (f : Nat) (S : St) (t : Nat) : Nat → Int64 → Int32 → Option (Int64)
  | 0, _, _ => none
  | n + 1, l1, l3 =>
    if (25 : Int32) ≤ l3 then (
      some l1
    ) else (
      F_X2_denominatorSize_L13 sh f S t (F_X2_denominatorSize_L4 sh f S t n) f l1 l3 (0 : Int32)
    )
def F_X2_denominatorSize (sh : List Sh) (f : Nat) (S : St) (t : Nat) : Option (Int64) :=
  F_X2_denominatorSize_L4 sh f S t f (1 : Int64) (0 : Int32)
def F_X2_reduce_L61 (sh : List Sh) (f : Nat) (t : Nat) (k55 : St → Int32 → Int32 → Option (St)) : Nat → St → Int32 → Int32 → Option (St)
  | 0, _, _, _ => none
  | n + 1, S, l1, l2 =>
    if l2 < 0 ∨ 25 ≤ l2.toNatClampNeg then none else
    if (sA S (t + 1) l2.toNatClampNeg) ≤ 0 then (
      bnd (l2 + (1 : Int32)) fun x1 =>
      k55 S l1 x1
    ) else (
      if l2 < 0 ∨ 25 ≤ l2.toNatClampNeg then none else
      (F_X2_isDivisible sh f S t (v_tf v_T1 l2.toNatClampNeg)).bind fun y3 =>
      if y3 = 0 then (
        bnd (l2 + (1 : Int32)) fun x4 =>
        k55 S l1 x4
      ) else (
        if l2 < 0 ∨ 25 ≤ l2.toNatClampNeg then none else
        (F_X2_divide sh f S t (v_tf v_T1 l2.toNatClampNeg)).bind fun y6 =>
        if l2 < 0 ∨ 25 ≤ l2.toNatClampNeg then none else
        if l2 < 0 ∨ 25 ≤ l2.toNatClampNeg then none else
        bnd (uA y6 (t + 1) l2.toNatClampNeg ((sA y6 (t + 1) l2.toNatClampNeg) - (1 : Int32))) fun S7 =>
        F_X2_reduce_L61 sh f t k55 n S7 l1 l2
      )
    )
def F_X2_reduce_L144 (sh : List Sh) (f : Nat) (t : Nat) : St → Int64 → Nat → Int64 → Option (St) := fun S l2 v0 v1 =>
  bnd (uJ S v0 5 v1) fun S1 =>
  if 0 < (lg_cmp l2 (900000000000000000 : Int64)) then (
    bnd (uI S1 t 3 (0 : Int32)) fun S2 =>
    some S2
  ) else (
    if 0 < (lg_cmp (sJ S1 t 5) (900000000000000000 : Int64)) then (
      bnd (uI S1 t 3 (0 : Int32)) fun S3 =>
      some S3
    ) else (
      bnd (uI S1 t 3 (1 : Int32)) fun S4 =>
      some S4
    )
  )
def F_X2_reduce_L126 (sh : List Sh) (f : Nat) (t : Nat) : St → Int64 → Nat → Int64 → Option (St) := fun S l2 v0 v1 =>
  bnd (uJ S v0 4 v1) fun S1 =>
  if (lg_cmp l2 (0 : Int64)) = 0 then (
    F_X2_reduce_L144 sh f t S1 l2 t (1 : Int64)
  ) else (
    (F_X2_denominatorSize sh f S1 t).bind fun y2 =>
    F_X2_reduce_L144 sh f t S1 l2 t y2
  )
def F_X2_reduce_L55 (sh : List Sh) (f : Nat) (t : Nat) : Nat → St → Int32 → Int32 → Option (St)
  | 0, _, _, _ => none
  | n + 1, S, l1, l2 =>
    if (25 : Int32) ≤ l2 then (
      (F_X2_numeratorSize sh f S t).bind fun y1 =>
      if l1 = 0 then (
        F_X2_reduce_L126 sh f t S y1 t y1
      ) else (
        F_X2_reduce_L126 sh f t S y1 t (-y1)
      )
    ) else (
      F_X2_reduce_L61 sh f t (F_X2_reduce_L55 sh f t n) f S l1 l2
    )
def F_X2_reduce_L18 (sh : List Sh) (f : Nat) (t : Nat) : Nat → St → Int32 → Int32 → Option (St)
  | 0, _, _, _ => none
  | n + 1, S, l1, l2 =>
    if (12 : Int32) ≤ l2 then (
      (F_X2_carryOver sh f S t (1 : Int32)).bind fun y1 =>
      F_X2_reduce_L55 sh f t f y1.2 l1 (0 : Int32)
    ) else (
      if l1 = 0 then (
        (F_X2_carryOver sh f S t (1 : Int32)).bind fun y2 =>
        F_X2_reduce_L55 sh f t f y2.2 l1 (0 : Int32)
      ) else (
        if l2 < 0 ∨ 12 ≤ l2.toNatClampNeg then none else
        if l2 < 0 ∨ 12 ≤ l2.toNatClampNeg then none else
        bnd (uL S (t + 2) l2.toNatClampNeg (-(sL S (t + 2) l2.toNatClampNeg))) fun S3 =>
        bnd (l2 + (1 : Int32)) fun x4 =>
        F_X2_reduce_L18 sh f t n S3 l1 x4
      )
    )
def F_X2_reduce (sh : List Sh) (f : Nat) (S : St) (t : Nat) : Option (St) :=
  (F_X2_carryOver sh f S t (0 : Int32)).bind fun y1 =>
  if 0 ≤ (lg_cmp y1.1 (0 : Int64)) then (
    F_X2_reduce_L18 sh f t f y1.2 (0 : Int32) (0 : Int32)
  ) else (
    F_X2_reduce_L18 sh f t f y1.2 (1 : Int32) (0 : Int32)
  )
