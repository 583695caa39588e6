def F_X4_markKinds_L155 (sh : List Sh) (f : Nat) (t : Nat) (p1 : Nat) (k98 : St → Int32 → Int32 → Int32 → Option (St)) : St → Int32 → Int32 → Int32 → Option (St) := fun S l2 l4 l5 =>
  if l5 < 0 ∨ 12 ≤ l5.toNatClampNeg then none else
  if l2 < 0 ∨ 12 ≤ l2.toNatClampNeg then none else
  if (sA S (t + 3) l5.toNatClampNeg) = (sA S (t + 3) l2.toNatClampNeg) then (
    if l2 < 0 ∨ 12 ≤ l2.toNatClampNeg then none else
    if l2 < 0 ∨ 12 ≤ l2.toNatClampNeg then none else
    bnd (uA S (t + 4) l2.toNatClampNeg ((sA S (t + 4) l2.toNatClampNeg) ||| ((1 : Int32) <<< (l5 &&& 31)))) fun S2 =>
    bnd (l5 + (1 : Int32)) fun x3 =>
    k98 S2 l2 l4 x3
  ) else (
    bnd (l5 + (1 : Int32)) fun x1 =>
    k98 S l2 l4 x1
  )
def F_X4_markKinds_L142 (sh : List Sh) (f : Nat) (t : Nat) (p1 : Nat) (k98 : St → Int32 → Int32 → Int32 → Option (St)) : St → Int32 → Int32 → Int32 → Option (St) := fun S l2 l4 l5 =>
  if l2 < 0 ∨ 12 ≤ l2.toNatClampNeg then none else
  if l2 < 0 ∨ 12 ≤ l2.toNatClampNeg then none else
  bnd (uA S (t + 5) l2.toNatClampNeg ((sA S (t + 5) l2.toNatClampNeg) ||| ((1 : Int32) <<< (l5 &&& 31)))) fun S1 =>
  F_X4_markKinds_L155 sh f t p1 k98 S1 l2 l4 l5
def F_X4_markKinds_L98 (sh : List Sh) (f : Nat) (t : Nat) (p1 : Nat) (k12 : St → Int32 → Option (St)) : Nat → St → Int32 → Int32 → Int32 → Option (St)
  | 0, _, _, _, _ => none
  | n + 1, S, l2, l4, l5 =>
    if (sI S t 9) ≤ l5 then (
      bnd (l2 + (1 : Int32)) fun x1 =>
      k12 S x1
    ) else (
      if l5 = l2 then (
        F_X4_markKinds_L155 sh f t p1 (F_X4_markKinds_L98 sh f t p1 k12 n) S l2 l4 l5
      ) else (
        if l5 < 0 ∨ 12 ≤ l5.toNatClampNeg then none else
        if (sA S (t + 1) l5.toNatClampNeg) = l4 then (
          if (sI S t 8) ≤ l2 then (
            F_X4_markKinds_L142 sh f t p1 (F_X4_markKinds_L98 sh f t p1 k12 n) S l2 l4 l5
          ) else (
            if l5 < (sI S t 8) then (
              F_X4_markKinds_L155 sh f t p1 (F_X4_markKinds_L98 sh f t p1 k12 n) S l2 l4 l5
            ) else (
              F_X4_markKinds_L142 sh f t p1 (F_X4_markKinds_L98 sh f t p1 k12 n) S l2 l4 l5
            )
          )
        ) else (
          F_X4_markKinds_L155 sh f t p1 (F_X4_markKinds_L98 sh f t p1 k12 n) S l2 l4 l5
        )
      )
    )
def F_X4_markKinds_L55 (sh : List Sh) (f : Nat) (t : Nat) (p1 : Nat) (k12 : St → Int32 → Option (St)) : St → Int32 → Int32 → Int32 → Nat → Int32 → Int32 → Option (St) := fun S l2 l3 l4 v0 v1 v2 =>
  bnd (uI S v0 10 (v1 ||| v2)) fun S1 =>
  if l3 ≤ l4 then (
    bnd (uI S1 t 11 ((sI S1 t 11) ||| (0 : Int32))) fun S2 =>
    if l2 < 0 ∨ 12 ≤ l2.toNatClampNeg then none else
    bnd (uA S2 (t + 5) l2.toNatClampNeg (0 : Int32)) fun S3 =>
    if l2 < 0 ∨ 12 ≤ l2.toNatClampNeg then none else
    bnd (uA S3 (t + 4) l2.toNatClampNeg (0 : Int32)) fun S4 =>
    F_X4_markKinds_L98 sh f t p1 k12 f S4 l2 l4 (0 : Int32)
  ) else (
    bnd (uI S1 t 11 ((sI S1 t 11) ||| ((1 : Int32) <<< (l2 &&& 31)))) fun S5 =>
    if l2 < 0 ∨ 12 ≤ l2.toNatClampNeg then none else
    bnd (uA S5 (t + 5) l2.toNatClampNeg (0 : Int32)) fun S6 =>
    if l2 < 0 ∨ 12 ≤ l2.toNatClampNeg then none else
    bnd (uA S6 (t + 4) l2.toNatClampNeg (0 : Int32)) fun S7 =>
    F_X4_markKinds_L98 sh f t p1 k12 f S7 l2 l4 (0 : Int32)
  )
def F_X4_markKinds_L12 (sh : List Sh) (f : Nat) (t : Nat) (p1 : Nat) : Nat → St → Int32 → Option (St)
  | 0, _, _ => none
  | n + 1, S, l2 =>
    if (sI S t 9) ≤ l2 then (
      some S
    ) else (
      if l2 < 0 ∨ 12 ≤ l2.toNatClampNeg then none else
      bnd (sA S (t + 1) l2.toNatClampNeg) fun x1 =>
      if x1 < 0 ∨ 8 ≤ x1.toNatClampNeg then none else
      bnd (sA S (p1 + 2) x1.toNatClampNeg) fun x2 =>
      (F_X0_isHalf sh f S p1 x1).bind fun y3 =>
      if y3 = 0 then (
        F_X4_markKinds_L55 sh f t p1 (F_X4_markKinds_L12 sh f t p1 n) S l2 x1 x2 t (sI S t 10) (0 : Int32)
      ) else (
        F_X4_markKinds_L55 sh f t p1 (F_X4_markKinds_L12 sh f t p1 n) S l2 x1 x2 t (sI S t 10) ((1 : Int32) <<< (l2 &&& 31))
      )
    )
def F_X4_markKinds (sh : List Sh) (f : Nat) (S : St) (t : Nat) (p1 : Nat) : Option (St) :=
  bnd (uI S t 10 (0 : Int32)) fun S1 =>
  bnd (uI S1 t 11 (0 : Int32)) fun S2 =>
  F_X4_markKinds_L12 sh f t p1 f S2 (0 : Int32)
def F_X4_followsAlike (sh : List Sh) (f : Nat) (S : St) (t : Nat) (p1 : Int32) : Option (Int32) :=
  if p1 ≤ 0 then (
    some (0 : Int32)
  ) else (
    if (sI S t 7) ≤ p1 then (
      some (0 : Int32)
    ) else (
      if p1 < 0 ∨ 3 ≤ p1.toNatClampNeg then none else
      if (p1 - (1 : Int32)) < 0 ∨ 3 ≤ (p1 - (1 : Int32)).toNatClampNeg then none else
      if (sA S (t + 6) p1.toNatClampNeg) = (sA S (t + 6) (p1 - (1 : Int32)).toNatClampNeg) then (
        some (1 : Int32)
      ) else (
        some (0 : Int32)
      )
    )
  )
def F_X4_countNamings_L54 (sh : List Sh) (f : Nat) (t : Nat) : Nat → St → Int32 → Option (St)
  | 0, _, _ => none
  | n + 1, S, l2 =>
    if (sI S t 9) ≤ l2 then (
      some S
    ) else (
      if l2 < 0 ∨ 12 ≤ l2.toNatClampNeg then none else
      (F_J6_bitCount_0f7a4 sh f S ((sA S (t + 4) l2.toNatClampNeg) &&& (((2 : Int32) <<< (l2 &&& 31)) - (1 : Int32)))).bind fun y1 =>
      bnd (uI S t 12 ((sI S t 12) * y1)) fun S2 =>
      bnd (l2 + (1 : Int32)) fun x3 =>
      F_X4_countNamings_L54 sh f t n S2 x3
    )
def F_X4_countNamings_L9 (sh : List Sh) (f : Nat) (t : Nat) : Nat → St → Int32 → Int32 → Option (St)
  | 0, _, _, _ => none
  | n + 1, S, l1, l2 =>
    if (sI S t 7) ≤ l2 then (
      bnd (sI S t 8) fun x1 =>
      F_X4_countNamings_L54 sh f t f S x1
    ) else (
      (F_X4_followsAlike sh f S t l2).bind fun y2 =>
      if y2 = 0 then (
        bnd (uI S t 12 ((sI S t 12) * (1 : Int32))) fun S3 =>
        bnd (l2 + (1 : Int32)) fun x4 =>
        F_X4_countNamings_L9 sh f t n S3 (1 : Int32) x4
      ) else (
        bnd (l1 + (1 : Int32)) fun x5 =>
        bnd (uI S t 12 ((sI S t 12) * x5)) fun S6 =>
        bnd (l2 + (1 : Int32)) fun x7 =>
        F_X4_countNamings_L9 sh f t n S6 x5 x7
      )
    )
def F_X4_countNamings (sh : List Sh) (f : Nat) (S : St) (t : Nat) : Option (St) :=
  bnd (uI S t 12 (1 : Int32)) fun S1 =>
  F_X4_countNamings_L9 sh f t f S1 (0 : Int32) (0 : Int32)
def F_X4_lay_L132 (sh : List Sh) (f : Nat) (t : Nat) (p1 : Nat) (p2 : Nat) (p3 : Int32) (p4 : Int32) (k80 : St → Int32 → Option (Int32 × St)) : St → Int32 → Int32 → Option (Int32 × St) := fun S l5 l6 =>
  if l6 < 0 ∨ 4 ≤ l6.toNatClampNeg then none else
  if ((sI S t 9) + (sA S (p1 + 6) l6.toNatClampNeg)) ≤ (12 : Int32) then (
    if l5 < 0 ∨ 3 ≤ l5.toNatClampNeg then none else
    bnd (uA S (t + 6) l5.toNatClampNeg l6) fun S1 =>
    (F_X4_layPoint sh f S1 t p1 l5).bind fun y2 =>
    bnd (l5 + (1 : Int32)) fun x3 =>
    k80 y2 x3
  ) else (
    some ((0 : Int32), S)
  )
def F_X4_lay_L80 (sh : List Sh) (f : Nat) (t : Nat) (p1 : Nat) (p2 : Nat) (p3 : Int32) (p4 : Int32) : Nat → St → Int32 → Option (Int32 × St)
  | 0, _, _ => none
  | n + 1, S, l5 =>
    if p3 ≤ l5 then (
      if ((sI S t 9) - (sI S t 9) / (2 : Int32) * (2 : Int32)) = 0 then (
        (F_X4_markKinds sh f S t p1).bind fun y1 =>
        (F_X4_countNamings sh f y1 t).bind fun y2 =>
        some ((1 : Int32), y2)
      ) else (
        some ((0 : Int32), S)
      )
    ) else (
      if (3 : Int32) ≤ l5 then (
        if ((sI S t 9) - (sI S t 9) / (2 : Int32) * (2 : Int32)) = 0 then (
          (F_X4_markKinds sh f S t p1).bind fun y3 =>
          (F_X4_countNamings sh f y3 t).bind fun y4 =>
          some ((1 : Int32), y4)
        ) else (
          some ((0 : Int32), S)
        )
      ) else (
        (F_X3_ruleIn sh f S p4 p3 l5).bind fun y5 =>
        if (sI S p1 10) ≤ y5 then (
          some ((0 : Int32), S)
        ) else (
          if l5 ≤ 0 then (
            F_X4_lay_L132 sh f t p1 p2 p3 p4 (F_X4_lay_L80 sh f t p1 p2 p3 p4 n) S l5 y5
          ) else (
            if (l5 - (1 : Int32)) < 0 ∨ 3 ≤ (l5 - (1 : Int32)).toNatClampNeg then none else
            if (sA S (t + 6) (l5 - (1 : Int32)).toNatClampNeg) ≤ y5 then (
              F_X4_lay_L132 sh f t p1 p2 p3 p4 (F_X4_lay_L80 sh f t p1 p2 p3 p4 n) S l5 y5
            ) else (
              some ((0 : Int32), S)
            )
          )
        )
      )
    )
def F_X4_lay_L24 (sh : List Sh) (f : Nat) (t : Nat) (p1 : Nat) (p2 : Nat) (p3 : Int32) (p4 : Int32) : Nat → St → Int32 → Option (Int32 × St)
  | 0, _, _ => none
  | n + 1, S, l5 =>
    if (sI S t 8) ≤ l5 then (
      F_X4_lay_L80 sh f t p1 p2 p3 p4 f S (0 : Int32)
    ) else (
      if (6 : Int32) ≤ l5 then (
        F_X4_lay_L80 sh f t p1 p2 p3 p4 f S (0 : Int32)
      ) else (
        if l5 < 0 ∨ 6 ≤ l5.toNatClampNeg then none else
        if l5 < 0 ∨ 12 ≤ l5.toNatClampNeg then none else
        bnd (uA S (t + 1) l5.toNatClampNeg (sA S (p2 + 1) l5.toNatClampNeg)) fun S1 =>
        if l5 < 0 ∨ 12 ≤ l5.toNatClampNeg then none else
        bnd (uA S1 (t + 2) l5.toNatClampNeg (-1 : Int32)) fun S2 =>
        if l5 < 0 ∨ 12 ≤ l5.toNatClampNeg then none else
        bnd (uA S2 (t + 3) l5.toNatClampNeg l5) fun S3 =>
        bnd (l5 + (1 : Int32)) fun x4 =>
        F_X4_lay_L24 sh f t p1 p2 p3 p4 n S3 x4
      )
    )
def F_X4_lay (sh : List Sh) (f : Nat) (S : St) (t : Nat) (p1 : Nat) (p2 : Nat) (p3 : Int32) (p4 : Int32) : Option (Int32 × St) :=
  bnd (uI S t 7 p3) fun S1 =>
  bnd (uI S1 t 8 (sI S1 p2 2)) fun S2 =>
  bnd (uI S2 t 9 (sI S2 t 8)) fun S3 =>
  F_X4_lay_L24 sh f t p1 p2 p3 p4 f S3 (0 : Int32)
def F_X4_allLegs (sh : List Sh) (f : Nat) (S : St) (t : Nat) : Option (Int32) :=
  some (((1 : Int32) <<< ((sI S t 9) &&& 31)) - (1 : Int32))
def F_X4_pointBit (sh : List Sh) (f : Nat) (S : St) (t : Nat) (p1 : Int32) : Option (Int32) :=
  if p1 < 0 ∨ 12 ≤ p1.toNatClampNeg then none else
  if 0 ≤ (sA S (t + 2) p1.toNatClampNeg) then (
    if p1 < 0 ∨ 12 ≤ p1.toNatClampNeg then none else
    some ((1 : Int32) <<< ((sA S (t + 2) p1.toNatClampNeg) &&& 31))
  ) else (
    some (0 : Int32)
  )
def F_X4_link (sh : List Sh) (f : Nat) (S : St) (t : Nat) (p1 : Int32) (p2 : Int32) : Option (Int32) :=
  if p1 < 0 ∨ 12 ≤ p1.toNatClampNeg then none else
  bnd (sA S (t + 2) p1.toNatClampNeg) fun x1 =>
  if p2 < 0 ∨ 12 ≤ p2.toNatClampNeg then none else
  bnd (sA S (t + 2) p2.toNatClampNeg) fun x2 =>
  if x1 < 0 then (
    some (0 : Int32)
  ) else (
    if x2 < 0 then (
      some (0 : Int32)
    ) else (
      if x1 = x2 then (
        some (0 : Int32)
      ) else (
        some ((1 : Int32) <<< (((x1 + x2) - (1 : Int32)) &&& 31))
      )
    )
  )
def F_X4_hangs (sh : List Sh) (f : Nat) (S : St) (t : Nat) (p1 : Int32) : Option (Int32) :=
  (F_J6_bitCount_0f7a4 sh f S p1).bind fun y1 =>
  if y1 < ((sI S t 7) - (1 : Int32)) then (
    some (0 : Int32)
  ) else (
    some (1 : Int32)
  )
def F_X4_mayJoin (sh : List Sh) (f : Nat) (S : St) (t : Nat) (p1 : Int32) (p2 : Int32) (p3 : Int32) : Option (Int32) :=
  if p1 < 0 ∨ 12 ≤ p1.toNatClampNeg then none else
  if (((p3 &&& (sA S (t + 5) p1.toNatClampNeg)) >>> (p2 &&& 31)) &&& (1 : Int32)) = 0 then (
    some (0 : Int32)
  ) else (
    some (1 : Int32)
  )
def F_X4_mayLead (sh : List Sh) (f : Nat) (S : St) (t : Nat) (p1 : Int32) (p2 : Int32) (p3 : Int32) (p4 : Int32) : Option (Int32) :=
  (F_X4_mayJoin sh f S t p1 p2 p3).bind fun y1 =>
  if y1 = 0 then (
    some (0 : Int32)
  ) else (
    if p2 < 0 ∨ 12 ≤ p2.toNatClampNeg then none else
    if ((p3 &&& (sA S (t + 4) p2.toNatClampNeg)) &&& (((1 : Int32) <<< (p2 &&& 31)) - (1 : Int32))) = 0 then (
      if p2 < 0 ∨ 12 ≤ p2.toNatClampNeg then none else
      bnd (sA S (t + 2) p2.toNatClampNeg) fun x2 =>
      (F_X4_pointBit sh f S t p1).bind fun y3 =>
      bnd (p4 ||| y3) fun x4 =>
      (F_X4_followsAlike sh f S t x2).bind fun y5 =>
      if y5 = 0 then (
        some (1 : Int32)
      ) else (
        if ((x4 >>> ((x2 - (1 : Int32)) &&& 31)) &&& (3 : Int32)) = 0 then (
          some (0 : Int32)
        ) else (
          some (1 : Int32)
        )
      )
    ) else (
      some (0 : Int32)
    )
  )
def F_X4_signOf (sh : List Sh) (f : Nat) (S : St) (t : Nat) (p1 : Int32) (p2 : Int32) (p3 : Int32) : Option (Int32) :=
  if (((sI S t 10) >>> (p1 &&& 31)) &&& (1 : Int32)) = 0 then (
    some (1 : Int32)
  ) else (
    (F_J6_bitCount_0f7a4 sh f S ((p3 &&& (sI S t 10)) &&& (((1 : Int32) <<< (p2 &&& 31)) - (1 : Int32)))).bind fun y1 =>
    bnd (((sI S t 11) >>> (p1 &&& 31)) &&& (1 : Int32)) fun x2 =>
    if ((y1 + x2) - (y1 + x2) / (2 : Int32) * (2 : Int32)) = 0 then (
      some (1 : Int32)
    ) else (
      some (-1 : Int32)
    )
  )
def F_X4_keepsRules_L2 (sh : List Sh) (f : Nat) (S : St) (t : Nat) (p1 : Int32) : Nat → Int32 → Option (Int32)
  | 0, _ => none
  | n + 1, l2 =>
    if (3 : Int32) ≤ l2 then (
      some (1 : Int32)
    ) else (
      if ((p1 * (3 : Int32)) + l2) < 0 ∨ 18 ≤ ((p1 * (3 : Int32)) + l2).toNatClampNeg then none else
      bnd (v_tf v_T0 ((p1 * (3 : Int32)) + l2).toNatClampNeg) fun x2 =>
      if l2 < (sI S t 7) then (
        if (sI S t 7) ≤ x2 then (
          some (0 : Int32)
        ) else (
          if x2 < 0 ∨ 3 ≤ x2.toNatClampNeg then none else
          if l2 < 0 ∨ 3 ≤ l2.toNatClampNeg then none else
          if (sA S (t + 6) x2.toNatClampNeg) = (sA S (t + 6) l2.toNatClampNeg) then (
            bnd (l2 + (1 : Int32)) fun x3 =>
            F_X4_keepsRules_L2 sh f S t p1 n x3
          ) else (
            some (0 : Int32)
          )
        )
      ) else (
        if x2 = l2 then (
          bnd (l2 + (1 : Int32)) fun x4 =>
          F_X4_keepsRules_L2 sh f S t p1 n x4
        ) else (
          some (0 : Int32)
        )
      )
    )
def F_X4_keepsRules (sh : List Sh) (f : Nat) (S : St) (t : Nat) (p1 : Int32) : Option (Int32) :=
  F_X4_keepsRules_L2 sh f S t p1 f (0 : Int32)
def F_X4_swapped (sh : List Sh) (f : Nat) (S : St) (t : Nat) (p1 : Int32) (p2 : Int32) : Option (Int32) :=
  if p1 < 0 ∨ 12 ≤ p1.toNatClampNeg then none else
  bnd (sA S (t + 2) p1.toNatClampNeg) fun x1 =>
  if 0 ≤ x1 then (
    if ((p2 * (3 : Int32)) + x1) < 0 ∨ 18 ≤ ((p2 * (3 : Int32)) + x1).toNatClampNeg then none else
    if (v_tf v_T0 ((p2 * (3 : Int32)) + x1).toNatClampNeg) < 0 ∨ 3 ≤ (v_tf v_T0 ((p2 * (3 : Int32)) + x1).toNatClampNeg).toNatClampNeg then none else
    if p1 < 0 ∨ 12 ≤ p1.toNatClampNeg then none else
    if x1 < 0 ∨ 3 ≤ x1.toNatClampNeg then none else
    some (((sA S (t + 7) (v_tf v_T0 ((p2 * (3 : Int32)) + x1).toNatClampNeg).toNatClampNeg) + (sA S (t + 3) p1.toNatClampNeg)) - (sA S (t + 7) x1.toNatClampNeg))
  ) else (
    some p1
  )
def F_X4_isPairing_L5 (sh : List Sh) (f : Nat) (S : St) (t : Nat) (p1 : Int64) : Nat → Int32 → Int32 → Option (Int32)
  | 0, _, _ => none
  | n + 1, l3, l4 =>
    if (sI S t 9) ≤ l4 then (
      (F_X4_hangs sh f S t l3).bind fun y1 =>
      if ¬ (y1 = 0 ∨ y1 = 1) then none else
      some y1
    ) else (
      (F_X4_partnerIn sh f S p1 l4).bind fun y2 =>
      if (sI S t 9) ≤ y2 then (
        some (0 : Int32)
      ) else (
        if l4 < 0 ∨ 12 ≤ l4.toNatClampNeg then none else
        if (((sA S (t + 5) l4.toNatClampNeg) >>> (y2 &&& 31)) &&& (1 : Int32)) = 0 then (
          some (0 : Int32)
        ) else (
          (F_X4_partnerIn sh f S p1 y2).bind fun y3 =>
          if y3 = l4 then (
            (F_X4_link sh f S t l4 y2).bind fun y4 =>
            bnd (l3 ||| y4) fun x5 =>
            bnd (l4 + (1 : Int32)) fun x6 =>
            F_X4_isPairing_L5 sh f S t p1 n x5 x6
          ) else (
            some (0 : Int32)
          )
        )
      )
    )
def F_X4_isPairing (sh : List Sh) (f : Nat) (S : St) (t : Nat) (p1 : Int64) : Option (Int32) :=
  F_X4_isPairing_L5 sh f S t p1 f (0 : Int32) (0 : Int32)
