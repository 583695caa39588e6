def F_J6_numberOfTrailingZeros_0f7a4_L49 (sh : List Sh) (f : Nat) (S : St) : Int32 → Int32 → Option (Int32) := fun l0 l1 =>
  if l0 ≤ (16 : Int32) then (
    if l0 ≤ (4 : Int32) then (
      some (l1 + ((l0.toUInt32 >>> ((1 : Int32).toUInt32 &&& Int32.toUInt32 31)).toInt32))
    ) else (
      bnd (l1 + (2 : Int32)) fun x1 =>
      bnd ((l0.toUInt32 >>> ((2 : Int32).toUInt32 &&& Int32.toUInt32 31)).toInt32) fun x2 =>
      some (x1 + ((x2.toUInt32 >>> ((1 : Int32).toUInt32 &&& Int32.toUInt32 31)).toInt32))
    )
  ) else (
    bnd (l1 + (4 : Int32)) fun x3 =>
    bnd ((l0.toUInt32 >>> ((4 : Int32).toUInt32 &&& Int32.toUInt32 31)).toInt32) fun x4 =>
    if x4 ≤ (4 : Int32) then (
      some (x3 + ((x4.toUInt32 >>> ((1 : Int32).toUInt32 &&& Int32.toUInt32 31)).toInt32))
    ) else (
      bnd (x3 + (2 : Int32)) fun x5 =>
      bnd ((x4.toUInt32 >>> ((2 : Int32).toUInt32 &&& Int32.toUInt32 31)).toInt32) fun x6 =>
      some (x5 + ((x6.toUInt32 >>> ((1 : Int32).toUInt32 &&& Int32.toUInt32 31)).toInt32))
    )
  )
def F_J6_numberOfTrailingZeros_0f7a4_L34 (sh : List Sh) (f : Nat) (S : St) : Int32 → Int32 → Option (Int32) := fun l0 l1 =>
  if l0 ≤ (256 : Int32) then (
    F_J6_numberOfTrailingZeros_0f7a4_L49 sh f S l0 l1
  ) else (
    bnd (l1 + (8 : Int32)) fun x1 =>
    bnd ((l0.toUInt32 >>> ((8 : Int32).toUInt32 &&& Int32.toUInt32 31)).toInt32) fun x2 =>
    F_J6_numberOfTrailingZeros_0f7a4_L49 sh f S x2 x1
  )
def F_J6_numberOfTrailingZeros_0f7a4 (sh : List Sh) (f : Nat) (S : St) (p0 : Int32) : Option (Int32) :=
  bnd ((p0 ^^^ (-1 : Int32)) &&& (p0 - (1 : Int32))) fun x1 =>
  if 0 < x1 then (
    if x1 ≤ (65536 : Int32) then (
      F_J6_numberOfTrailingZeros_0f7a4_L34 sh f S x1 (1 : Int32)
    ) else (
      bnd ((1 : Int32) + (16 : Int32)) fun x2 =>
      bnd ((x1.toUInt32 >>> ((16 : Int32).toUInt32 &&& Int32.toUInt32 31)).toInt32) fun x3 =>
      F_J6_numberOfTrailingZeros_0f7a4_L34 sh f S x3 x2
    )
  ) else (
    some (x1 &&& (32 : Int32))
  )
def F_J6_bitCount_0f7a4 (sh : List Sh) (f : Nat) (S : St) (p0 : Int32) : Option (Int32) :=
  bnd (p0 - (((p0.toUInt32 >>> ((1 : Int32).toUInt32 &&& Int32.toUInt32 31)).toInt32) &&& (1431655765 : Int32))) fun x1 =>
  bnd ((x1 &&& (858993459 : Int32)) + (((x1.toUInt32 >>> ((2 : Int32).toUInt32 &&& Int32.toUInt32 31)).toInt32) &&& (858993459 : Int32))) fun x2 =>
  bnd ((x2 + ((x2.toUInt32 >>> ((4 : Int32).toUInt32 &&& Int32.toUInt32 31)).toInt32)) &&& (252645135 : Int32)) fun x3 =>
  bnd (x3 + ((x3.toUInt32 >>> ((8 : Int32).toUInt32 &&& Int32.toUInt32 31)).toInt32)) fun x4 =>
  bnd (x4 + ((x4.toUInt32 >>> ((16 : Int32).toUInt32 &&& Int32.toUInt32 31)).toInt32)) fun x5 =>
  some (x5 &&& (63 : Int32))
def F_J9_floorDiv_7cf53 (sh : List Sh) (f : Nat) (S : St) (p0 : Int32) (p1 : Int32) : Option (Int32) :=
  if p1 = 0 then none else
  bnd (p0 / p1) fun x1 =>
  if 0 ≤ (p0 ^^^ p1) then (
    some x1
  ) else (
    if (x1 * p1) = p0 then (
      some x1
    ) else (
      some (x1 - (1 : Int32))
    )
  )
def F_J9_floorMod_7cf53 (sh : List Sh) (f : Nat) (S : St) (p0 : Int32) (p1 : Int32) : Option (Int32) :=
  if p1 = 0 then none else
  bnd (p0 - p0 / p1 * p1) fun x1 =>
  if 0 ≤ (p0 ^^^ p1) then (
    some x1
  ) else (
    if x1 = 0 then (
      some x1
    ) else (
      some (x1 + p1)
    )
  )
def F_J9_floorMod_f86c9 (sh : List Sh) (f : Nat) (S : St) (p0 : Int64) (p2 : Int64) : Option (Int64) :=
  if p2 = 0 then none else
  bnd (p0 - p0 / p2 * p2) fun x1 =>
  if 0 ≤ (lg_cmp (p0 ^^^ p2) (0 : Int64)) then (
    some x1
  ) else (
    if (lg_cmp x1 (0 : Int64)) = 0 then (
      some x1
    ) else (
      some (x1 + p2)
    )
  )
def F_J9_abs_067f4 (sh : List Sh) (f : Nat) (S : St) (p0 : Int64) : Option (Int64) :=
  if 0 ≤ (lg_cmp p0 (0 : Int64)) then (
    some p0
  ) else (
    some (-p0)
  )
def F_J9_max_7cf53 (sh : List Sh) (f : Nat) (S : St) (p0 : Int32) (p1 : Int32) : Option (Int32) :=
  if p0 < p1 then (
    some p1
  ) else (
    some p0
  )
def F_J9_min_7cf53 (sh : List Sh) (f : Nat) (S : St) (p0 : Int32) (p1 : Int32) : Option (Int32) :=
  if p1 < p0 then (
    some p1
  ) else (
    some p0
  )
def F_J9_min_f86c9 (sh : List Sh) (f : Nat) (S : St) (p0 : Int64) (p2 : Int64) : Option (Int64) :=
  if 0 < (lg_cmp p0 p2) then (
    some p2
  ) else (
    some p0
  )
def F_X0_clear (sh : List Sh) (f : Nat) (S : St) (t : Nat) : Option (St) :=
  bnd (uI S t 9 (0 : Int32)) fun S1 =>
  bnd (uI S1 t 10 (0 : Int32)) fun S2 =>
  some S2
def F_X0_isTold (sh : List Sh) (f : Nat) (S : St) (t : Nat) : Option (Int32) :=
  if (sI S t 9) ≤ 0 then (
    some (0 : Int32)
  ) else (
    some (1 : Int32)
  )
def F_X0_hasKind (sh : List Sh) (f : Nat) (S : St) (t : Nat) (p1 : Int32) : Option (Int32) :=
  if p1 < 0 then (
    some (0 : Int32)
  ) else (
    if (sI S t 9) ≤ p1 then (
      some (0 : Int32)
    ) else (
      some (1 : Int32)
    )
  )
def F_X0_ofKind (sh : List Sh) (f : Nat) (S : St) (t : Nat) (p1 : Int32) (p2 : Int32) : Option (Int32) :=
  (F_X0_hasKind sh f S t p1).bind fun y1 =>
  if y1 = 0 then (
    some (-2147483648 : Int32)
  ) else (
    if p2 = (0 : Int32) then (
      if p1 < 0 ∨ 8 ≤ p1.toNatClampNeg then none else
      some (sA S (t + 2) p1.toNatClampNeg)
    ) else (
    if p2 = (1 : Int32) then (
      if p1 < 0 ∨ 8 ≤ p1.toNatClampNeg then none else
      some (sA S (t + 3) p1.toNatClampNeg)
    ) else (
    if p2 = (2 : Int32) then (
      if p1 < 0 ∨ 8 ≤ p1.toNatClampNeg then none else
      some (sA S (t + 4) p1.toNatClampNeg)
    ) else (
    if p2 = (3 : Int32) then (
      if p1 < 0 ∨ 8 ≤ p1.toNatClampNeg then none else
      some (sA S (t + 5) p1.toNatClampNeg)
    ) else (
      some (-2147483648 : Int32)
    )
    )
    )
    )
  )
def F_X0_ofRule (sh : List Sh) (f : Nat) (S : St) (t : Nat) (p1 : Int32) (p2 : Int32) : Option (Int32) :=
  if p1 < 0 then (
    some (-2147483648 : Int32)
  ) else (
    if p1 < (sI S t 10) then (
      if p2 = (0 : Int32) then (
        if p1 < 0 ∨ 4 ≤ p1.toNatClampNeg then none else
        some (sA S (t + 6) p1.toNatClampNeg)
      ) else (
      if p2 = (1 : Int32) then (
        if p1 < 0 ∨ 4 ≤ p1.toNatClampNeg then none else
        some (sA S (t + 7) p1.toNatClampNeg)
      ) else (
      if p2 = (2 : Int32) then (
        if p1 < 0 ∨ 4 ≤ p1.toNatClampNeg then none else
        some (sA S (t + 8) p1.toNatClampNeg)
      ) else (
      if p2 = (3 : Int32) then (
        if p1 < 0 ∨ 4 ≤ p1.toNatClampNeg then none else
        if (sA S (t + 6) p1.toNatClampNeg) ≤ (p2 - (3 : Int32)) then (
          some (-2 : Int32)
        ) else (
          if (((p1 * (4 : Int32)) + p2) - (3 : Int32)) < 0 ∨ 16 ≤ (((p1 * (4 : Int32)) + p2) - (3 : Int32)).toNatClampNeg then none else
          some (sA S (t + 9) (((p1 * (4 : Int32)) + p2) - (3 : Int32)).toNatClampNeg)
        )
      ) else (
      if p2 = (4 : Int32) then (
        if p1 < 0 ∨ 4 ≤ p1.toNatClampNeg then none else
        if (sA S (t + 6) p1.toNatClampNeg) ≤ (p2 - (3 : Int32)) then (
          some (-2 : Int32)
        ) else (
          if (((p1 * (4 : Int32)) + p2) - (3 : Int32)) < 0 ∨ 16 ≤ (((p1 * (4 : Int32)) + p2) - (3 : Int32)).toNatClampNeg then none else
          some (sA S (t + 9) (((p1 * (4 : Int32)) + p2) - (3 : Int32)).toNatClampNeg)
        )
      ) else (
      if p2 = (5 : Int32) then (
        if p1 < 0 ∨ 4 ≤ p1.toNatClampNeg then none else
        if (sA S (t + 6) p1.toNatClampNeg) ≤ (p2 - (3 : Int32)) then (
          some (-2 : Int32)
        ) else (
          if (((p1 * (4 : Int32)) + p2) - (3 : Int32)) < 0 ∨ 16 ≤ (((p1 * (4 : Int32)) + p2) - (3 : Int32)).toNatClampNeg then none else
          some (sA S (t + 9) (((p1 * (4 : Int32)) + p2) - (3 : Int32)).toNatClampNeg)
        )
      ) else (
      if p2 = (6 : Int32) then (
        if p1 < 0 ∨ 4 ≤ p1.toNatClampNeg then none else
        if (sA S (t + 6) p1.toNatClampNeg) ≤ (p2 - (3 : Int32)) then (
          some (-2 : Int32)
        ) else (
          if (((p1 * (4 : Int32)) + p2) - (3 : Int32)) < 0 ∨ 16 ≤ (((p1 * (4 : Int32)) + p2) - (3 : Int32)).toNatClampNeg then none else
          some (sA S (t + 9) (((p1 * (4 : Int32)) + p2) - (3 : Int32)).toNatClampNeg)
        )
      ) else (
        some (-2147483648 : Int32)
      )
      )
      )
      )
      )
      )
      )
    ) else (
      some (-2147483648 : Int32)
    )
  )
def F_X0_isHalf (sh : List Sh) (f : Nat) (S : St) (t : Nat) (p1 : Int32) : Option (Int32) :=
  (F_X0_hasKind sh f S t p1).bind fun y1 =>
  if y1 = 0 then (
    some (0 : Int32)
  ) else (
    if p1 < 0 ∨ 8 ≤ p1.toNatClampNeg then none else
    if (sA S (t + 5) p1.toNatClampNeg) = (2 : Int32) then (
      some (1 : Int32)
    ) else (
      some (0 : Int32)
    )
  )
def F_X0_areEven_L9 (sh : List Sh) (f : Nat) (S : St) (t : Nat) (p1 n1 : Nat) (p2 : Int32) (p3 : Int32) : Nat → Int32 → Int32 → Int32 → Option (Int32)
  | 0, _, _, _ => none
  | n + 1, l4, l5, l6 =>
    if (p2 + p3) ≤ l6 then (
      if l4 = 0 then (
        if (l5 - l5 / (2 : Int32) * (2 : Int32)) = 0 then (
          some (1 : Int32)
        ) else (
          some (0 : Int32)
        )
      ) else (
        some (0 : Int32)
      )
    ) else (
      if (Int32.ofNat n1) ≤ l6 then (
        if l4 = 0 then (
          if (l5 - l5 / (2 : Int32) * (2 : Int32)) = 0 then (
            some (1 : Int32)
          ) else (
            some (0 : Int32)
          )
        ) else (
          some (0 : Int32)
        )
      ) else (
        if l6 < 0 then (
          bnd (l6 + (1 : Int32)) fun x1 =>
          F_X0_areEven_L9 sh f S t p1 n1 p2 p3 n l4 l5 x1
        ) else (
          if l6 < 0 ∨ n1 ≤ l6.toNatClampNeg then none else
          (F_X0_hasKind sh f S t (sA S p1 l6.toNatClampNeg)).bind fun y2 =>
          if y2 = 0 then (
            bnd (l6 + (1 : Int32)) fun x3 =>
            F_X0_areEven_L9 sh f S t p1 n1 p2 p3 n l4 l5 x3
          ) else (
            if l6 < 0 ∨ n1 ≤ l6.toNatClampNeg then none else
            if (sA S p1 l6.toNatClampNeg) < 0 ∨ 8 ≤ (sA S p1 l6.toNatClampNeg).toNatClampNeg then none else
            bnd (l4 + (sA S (t + 4) (sA S p1 l6.toNatClampNeg).toNatClampNeg)) fun x4 =>
            if l6 < 0 ∨ n1 ≤ l6.toNatClampNeg then none else
            (F_X0_isHalf sh f S t (sA S p1 l6.toNatClampNeg)).bind fun y5 =>
            if y5 = 0 then (
              bnd (l5 + (0 : Int32)) fun x6 =>
              bnd (l6 + (1 : Int32)) fun x7 =>
              F_X0_areEven_L9 sh f S t p1 n1 p2 p3 n x4 x6 x7
            ) else (
              bnd (l5 + (1 : Int32)) fun x8 =>
              bnd (l6 + (1 : Int32)) fun x9 =>
              F_X0_areEven_L9 sh f S t p1 n1 p2 p3 n x4 x8 x9
            )
          )
        )
      )
    )
def F_X0_areEven (sh : List Sh) (f : Nat) (S : St) (t : Nat) (p1 n1 : Nat) (p2 : Int32) (p3 : Int32) : Option (Int32) :=
  F_X0_areEven_L9 sh f S t p1 n1 p2 p3 f (0 : Int32) (0 : Int32) p2
def F_X0_findKind_L2 (sh : List Sh) (f : Nat) (S : St) (t : Nat) (p1 : Int64) : Nat → Int32 → Option (Int32)
  | 0, _ => none
  | n + 1, l3 =>
    if (sI S t 9) ≤ l3 then (
      some (-1 : Int32)
    ) else (
      if l3 < 0 ∨ 8 ≤ l3.toNatClampNeg then none else
      if (lg_cmp (sL S (t + 1) l3.toNatClampNeg) p1) = 0 then (
        some l3
      ) else (
        bnd (l3 + (1 : Int32)) fun x1 =>
        F_X0_findKind_L2 sh f S t p1 n x1
      )
    )
def F_X0_findKind (sh : List Sh) (f : Nat) (S : St) (t : Nat) (p1 : Int64) : Option (Int32) :=
  F_X0_findKind_L2 sh f S t p1 f (0 : Int32)
def F_X0_addKind (sh : List Sh) (f : Nat) (S : St) (t : Nat) (p1 : Int64) : Option (Int32 × St) :=
  if (sI S t 9) < (8 : Int32) then (
    if (sI S t 9) < 0 ∨ 8 ≤ (sI S t 9).toNatClampNeg then none else
    bnd (uL S (t + 1) (sI S t 9).toNatClampNeg p1) fun S1 =>
    bnd (uI S1 t 9 ((sI S1 t 9) + (1 : Int32))) fun S2 =>
    some ((1 : Int32), S2)
  ) else (
    some ((0 : Int32), S)
  )
def F_X0_setKind (sh : List Sh) (f : Nat) (S : St) (t : Nat) (p1 : Int32) (p2 : Int32) (p3 : Int32) (p4 : Int32) (p5 : Int32) : Option (St) :=
  if p1 < 0 ∨ 8 ≤ p1.toNatClampNeg then none else
  bnd (uA S (t + 2) p1.toNatClampNeg p2) fun S1 =>
  if p1 < 0 ∨ 8 ≤ p1.toNatClampNeg then none else
  bnd (uA S1 (t + 5) p1.toNatClampNeg p3) fun S2 =>
  if p1 < 0 ∨ 8 ≤ p1.toNatClampNeg then none else
  bnd (uA S2 (t + 3) p1.toNatClampNeg p4) fun S3 =>
  if p1 < 0 ∨ 8 ≤ p1.toNatClampNeg then none else
  bnd (uA S3 (t + 4) p1.toNatClampNeg p5) fun S4 =>
  some S4
def F_X0_setOwn (sh : List Sh) (f : Nat) (S : St) (t : Nat) (p1 : Int32) : Option (St) :=
  if (sI S t 9) < (1 : Int32) then (
    some S
  ) else (
    (F_X0_setKind sh f S t ((sI S t 9) - (1 : Int32)) ((sI S t 9) - (1 : Int32)) (0 : Int32) p1 (0 : Int32)).bind fun y1 =>
    some y1
  )
def F_X0_setTwo (sh : List Sh) (f : Nat) (S : St) (t : Nat) (p1 : Int32) (p2 : Int32) (p3 : Int32) : Option (St) :=
  if (sI S t 9) < (2 : Int32) then (
    some S
  ) else (
    (F_X0_setKind sh f S t ((sI S t 9) - (2 : Int32)) ((sI S t 9) - (1 : Int32)) p1 p2 p3).bind fun y1 =>
    (F_X0_setKind sh f y1 t ((sI y1 t 9) - (1 : Int32)) ((sI y1 t 9) - (2 : Int32)) p1 p2 (-p3)).bind fun y2 =>
    some y2
  )
def F_X0_openRule (sh : List Sh) (f : Nat) (S : St) (t : Nat) : Option (Int32 × St) :=
  if (sI S t 10) < (4 : Int32) then (
    if (sI S t 10) < 0 ∨ 4 ≤ (sI S t 10).toNatClampNeg then none else
    bnd (uA S (t + 6) (sI S t 10).toNatClampNeg (0 : Int32)) fun S1 =>
    some ((1 : Int32), S1)
  ) else (
    some ((0 : Int32), S)
  )
def F_X0_addLeg (sh : List Sh) (f : Nat) (S : St) (t : Nat) (p1 : Int32) : Option (Int32 × St) :=
  if (4 : Int32) ≤ (sI S t 10) then (
    some ((0 : Int32), S)
  ) else (
    if (sI S t 10) < 0 ∨ 4 ≤ (sI S t 10).toNatClampNeg then none else
    if (sA S (t + 6) (sI S t 10).toNatClampNeg) < (4 : Int32) then (
      if (sI S t 10) < 0 ∨ 4 ≤ (sI S t 10).toNatClampNeg then none else
      if (((sI S t 10) * (4 : Int32)) + (sA S (t + 6) (sI S t 10).toNatClampNeg)) < 0 ∨ 16 ≤ (((sI S t 10) * (4 : Int32)) + (sA S (t + 6) (sI S t 10).toNatClampNeg)).toNatClampNeg then none else
      bnd (uA S (t + 9) (((sI S t 10) * (4 : Int32)) + (sA S (t + 6) (sI S t 10).toNatClampNeg)).toNatClampNeg p1) fun S1 =>
      if (sI S1 t 10) < 0 ∨ 4 ≤ (sI S1 t 10).toNatClampNeg then none else
      if (sI S1 t 10) < 0 ∨ 4 ≤ (sI S1 t 10).toNatClampNeg then none else
      bnd (uA S1 (t + 6) (sI S1 t 10).toNatClampNeg ((sA S1 (t + 6) (sI S1 t 10).toNatClampNeg) + (1 : Int32))) fun S2 =>
      some ((1 : Int32), S2)
    ) else (
      some ((0 : Int32), S)
    )
  )
def F_X0_hasHalfTwice_L5 (sh : List Sh) (f : Nat) (S : St) (t : Nat) (p1 : Int32) (p2 : Int32) : Nat → Int32 → Int32 → Option (Int32)
  | 0, _, _ => none
  | n + 1, l3, l4 =>
    if (p1 + p2) ≤ l4 then (
      some (0 : Int32)
    ) else (
      if (Int32.ofNat 16) ≤ l4 then (
        some (0 : Int32)
      ) else (
        if l4 < 0 ∨ 16 ≤ l4.toNatClampNeg then none else
        bnd ((1 : Int32) <<< ((sA S (t + 9) l4.toNatClampNeg) &&& 31)) fun x1 =>
        if l4 < 0 ∨ 16 ≤ l4.toNatClampNeg then none else
        (F_X0_isHalf sh f S t (sA S (t + 9) l4.toNatClampNeg)).bind fun y2 =>
        if y2 = 0 then (
          bnd (l3 ||| x1) fun x3 =>
          bnd (l4 + (1 : Int32)) fun x4 =>
          F_X0_hasHalfTwice_L5 sh f S t p1 p2 n x3 x4
        ) else (
          if (l3 &&& x1) = 0 then (
            bnd (l3 ||| x1) fun x5 =>
            bnd (l4 + (1 : Int32)) fun x6 =>
            F_X0_hasHalfTwice_L5 sh f S t p1 p2 n x5 x6
          ) else (
            some (1 : Int32)
          )
        )
      )
    )
def F_X0_hasHalfTwice (sh : List Sh) (f : Nat) (S : St) (t : Nat) (p1 : Int32) (p2 : Int32) : Option (Int32) :=
  F_X0_hasHalfTwice_L5 sh f S t p1 p2 f (0 : Int32) p1
