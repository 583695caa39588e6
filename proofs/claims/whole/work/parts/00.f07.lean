def F_X12_prime (sh : List Sh) (f : Nat) (S : St) (p0 : Int32) : Option (Int32) :=
  if p0 = 0 then (
    some (1000003 : Int32)
  ) else (
    if p0 = (1 : Int32) then (
      some (1000033 : Int32)
    ) else (
      if p0 = (2 : Int32) then (
        some (1000037 : Int32)
      ) else (
        some (1000039 : Int32)
      )
    )
  )
def F_X12_mod (sh : List Sh) (f : Nat) (S : St) (p0 : Int64) (p2 : Int32) : Option (Int32) :=
  if p2.toInt64 = 0 then none else
  bnd (p0 - p0 / p2.toInt64 * p2.toInt64) fun x1 =>
  if 0 ≤ (lg_cmp x1 (0 : Int64)) then (
    some x1.toInt32
  ) else (
    some ((x1 + p2.toInt64).toInt32)
  )
def F_X12_inverse_L11 (sh : List Sh) (f : Nat) (S : St) (p0 : Int32) (p1 : Int32) : Nat → Int64 → Int64 → Int32 → Option (Int32)
  | 0, _, _, _ => none
  | n + 1, l2, l4, l6 =>
    if l6 ≤ 0 then (
      some l2.toInt32
    ) else (
      if (l6 &&& (1 : Int32)) = (1 : Int32) then (
        if p1.toInt64 = 0 then none else
        bnd ((l2 * l4) - (l2 * l4) / p1.toInt64 * p1.toInt64) fun x3 =>
        if p1.toInt64 = 0 then none else
        bnd ((l4 * l4) - (l4 * l4) / p1.toInt64 * p1.toInt64) fun x4 =>
        bnd (l6 >>> ((1 : Int32) &&& 31)) fun x5 =>
        F_X12_inverse_L11 sh f S p0 p1 n x3 x4 x5
      ) else (
        if p1.toInt64 = 0 then none else
        bnd ((l4 * l4) - (l4 * l4) / p1.toInt64 * p1.toInt64) fun x1 =>
        bnd (l6 >>> ((1 : Int32) &&& 31)) fun x2 =>
        F_X12_inverse_L11 sh f S p0 p1 n l2 x1 x2
      )
    )
def F_X12_inverse (sh : List Sh) (f : Nat) (S : St) (p0 : Int32) (p1 : Int32) : Option (Int32) :=
  bnd p0.toInt64 fun x1 =>
  bnd (p1 - (2 : Int32)) fun x2 =>
  F_X12_inverse_L11 sh f S p0 p1 f (1 : Int64) x1 x2
def F_X12_number (sh : List Sh) (f : Nat) (S : St) (t : Nat) (p1 : Int32) (p2 : Int32) : Option (Int32 × St) :=
  bnd (uI S t 0 (0 : Int32)) fun S1 =>
  if p1 < 0 then (
    (F_X12_denied sh f S1 t (1 : Int32)).bind fun y2 =>
    if ¬ (y2.1 = 0 ∨ y2.1 = 1) then none else
    some (y2.1, y2.2)
  ) else (
    if p1 < (sI S1 t 17) then (
      (F_X12_in sh f S1 p2 (-999 : Int32) (999 : Int32)).bind fun y3 =>
      if y3 = 0 then (
        (F_X12_denied sh f S1 t (2 : Int32)).bind fun y6 =>
        if ¬ (y6.1 = 0 ∨ y6.1 = 1) then none else
        some (y6.1, y6.2)
      ) else (
        if p1 < 0 ∨ 6 ≤ p1.toNatClampNeg then none else
        bnd (uA S1 (t + 15) p1.toNatClampNeg p2) fun S4 =>
        (F_X12_granted sh f S4 t).bind fun y5 =>
        if ¬ (y5.1 = 0 ∨ y5.1 = 1) then none else
        some (y5.1, y5.2)
      )
    ) else (
      (F_X12_denied sh f S1 t (1 : Int32)).bind fun y7 =>
      if ¬ (y7.1 = 0 ∨ y7.1 = 1) then none else
      some (y7.1, y7.2)
    )
  )
def F_X12_letter (sh : List Sh) (f : Nat) (S : St) (t : Nat) (p1 : Int32) (p2 : Int32) : Option (Int32 × St) :=
  bnd (uI S t 0 (0 : Int32)) fun S1 =>
  oN (sR S1 t 5) (
    (F_X12_denied sh f S1 t (1 : Int32)).bind fun y3 =>
    if ¬ (y3.1 = 0 ∨ y3.1 = 1) then none else
    some (y3.1, y3.2)
  ) (
    (F_X12_in sh f S1 p1 (0 : Int32) (2 : Int32)).bind fun y4 =>
    if y4 = 0 then (
      (F_X12_denied sh f S1 t (1 : Int32)).bind fun y9 =>
      if ¬ (y9.1 = 0 ∨ y9.1 = 1) then none else
      some (y9.1, y9.2)
    ) else (
      (F_X12_in sh f S1 p2 (-99 : Int32) (99 : Int32)).bind fun y5 =>
      if y5 = 0 then (
        (F_X12_denied sh f S1 t (2 : Int32)).bind fun y8 =>
        if ¬ (y8.1 = 0 ∨ y8.1 = 1) then none else
        some (y8.1, y8.2)
      ) else (
        if p1 < 0 ∨ 3 ≤ p1.toNatClampNeg then none else
        bnd (uA S1 (t + 16) p1.toNatClampNeg p2) fun S6 =>
        (F_X12_granted sh f S6 t).bind fun y7 =>
        if ¬ (y7.1 = 0 ∨ y7.1 = 1) then none else
        some (y7.1, y7.2)
      )
    )
  )
def F_X12_flow_L4 (sh : List Sh) (f : Nat) (S : St) (p0 : Nat) (p1 : Int32) : Nat → Int32 → Int32 → Option (Int32)
  | 0, _, _ => none
  | n + 1, l2, l3 =>
    if (sI S p0 2) ≤ l3 then (
      some l2
    ) else (
      if ((p1 >>> (l3 &&& 31)) &&& (1 : Int32)) = (1 : Int32) then (
        if l3 < 0 ∨ 6 ≤ l3.toNatClampNeg then none else
        bnd (l2 + (sA S (p0 + 2) l3.toNatClampNeg)) fun x3 =>
        bnd (l3 + (1 : Int32)) fun x4 =>
        F_X12_flow_L4 sh f S p0 p1 n x3 x4
      ) else (
        bnd (l2 + (0 : Int32)) fun x1 =>
        bnd (l3 + (1 : Int32)) fun x2 =>
        F_X12_flow_L4 sh f S p0 p1 n x1 x2
      )
    )
def F_X12_flow (sh : List Sh) (f : Nat) (S : St) (p0 : Nat) (p1 : Int32) : Option (Int32) :=
  F_X12_flow_L4 sh f S p0 p1 f (0 : Int32) (0 : Int32)
def F_X12_by (sh : List Sh) (f : Nat) (S : St) (t : Nat) (p1 : Nat) (p2 : Int32) (p3 : Int32) : Option (Int32) :=
  (F_X12_flow sh f S p1 p3).bind fun y1 =>
  (sR S t 5).bind fun b2 =>
  if ckX9 sh b2 = true then (
    if p2 < 0 ∨ 12 ≤ p2.toNatClampNeg then none else
    if (sA S (t + 38) p2.toNatClampNeg) < 0 ∨ 8 ≤ (sA S (t + 38) p2.toNatClampNeg).toNatClampNeg then none else
    bnd (sA S (b2 + 3) (sA S (t + 38) p2.toNatClampNeg).toNatClampNeg) fun x3 =>
    some ((y1 * y1) - (x3 * x3))
  ) else none
def F_X12_cutOf_L2 (sh : List Sh) (f : Nat) (t : Nat) (p1 : Int32) (p2 : Int32) : Nat → St → Int32 → Option (Int32 × St)
  | 0, _, _ => none
  | n + 1, S, l3 =>
    if (sI S t 25) ≤ l3 then (
      some ((-1 : Int32), S)
    ) else (
      (F_X12_sideOf sh f S t l3).bind fun y1 =>
      if y1.1 = p1 then (
        if l3 < 0 ∨ 12 ≤ l3.toNatClampNeg then none else
        if (sA y1.2 (t + 39) l3.toNatClampNeg) < 0 ∨ 9 ≤ (sA y1.2 (t + 39) l3.toNatClampNeg).toNatClampNeg then none else
        if (0 : Int32) < 0 ∨ 9 ≤ (0 : Int32).toNatClampNeg then none else
        if (sA y1.2 (t + 42) (sA y1.2 (t + 39) l3.toNatClampNeg).toNatClampNeg) = (sA y1.2 (t + 42) (0 : Int32).toNatClampNeg) then (
          if l3 < 0 ∨ 12 ≤ l3.toNatClampNeg then none else
          if (sA y1.2 (t + 38) l3.toNatClampNeg) = p2 then (
            some (l3, y1.2)
          ) else (
            some ((-1 : Int32), y1.2)
          )
        ) else (
          if l3 < 0 ∨ 12 ≤ l3.toNatClampNeg then none else
          bnd (sA y1.2 (t + 40) l3.toNatClampNeg) fun x2 =>
          if x2 < 0 ∨ 12 ≤ x2.toNatClampNeg then none else
          if (sA y1.2 (t + 38) x2.toNatClampNeg) = p2 then (
            some (l3, y1.2)
          ) else (
            some ((-1 : Int32), y1.2)
          )
        )
      ) else (
        bnd (l3 + (1 : Int32)) fun x3 =>
        F_X12_cutOf_L2 sh f t p1 p2 n y1.2 x3
      )
    )
def F_X12_cutOf (sh : List Sh) (f : Nat) (S : St) (t : Nat) (p1 : Int32) (p2 : Int32) : Option (Int32 × St) :=
  F_X12_cutOf_L2 sh f t p1 p2 f S (0 : Int32)
def F_X12_isTree (sh : List Sh) (f : Nat) (S : St) (t : Nat) (p1 : Nat) (p2 : Int32) : Option (Int32 × St) :=
  bnd (uI S t 40 (sI S p1 1)) fun S1 =>
  (F_X12_shows sh f S1 t p1 p2).bind fun y2 =>
  (F_X12_inners sh f y2 t).bind fun y3 =>
  if y3 = ((sI y2 p1 1) - (1 : Int32)) then (
    some ((1 : Int32), y2)
  ) else (
    some ((0 : Int32), y2)
  )
def F_X12_hasPole_L85 (sh : List Sh) (f : Nat) (t : Nat) (p1 : Nat) (p2 : Int32) (p3 : Int32) (k59 : St → Int32 → Int32 → Int32 → Option (Int32 × St)) : St → Int32 → Int32 → Int32 → Int32 → Option (Int32 × St) := fun S l4 l5 l6 v0 =>
  if v0 = (-1 : Int32) then (
    bnd (l6 + (1 : Int32)) fun x1 =>
    k59 S l4 l5 x1
  ) else (
    (F_X12_by sh f S t p1 l6 v0).bind fun y2 =>
    if y2 = 0 then (
      bnd (uI S t 57 v0) fun S3 =>
      some ((1 : Int32), S3)
    ) else (
      bnd (l6 + (1 : Int32)) fun x4 =>
      k59 S l4 l5 x4
    )
  )
def F_X12_hasPole_L59 (sh : List Sh) (f : Nat) (t : Nat) (p1 : Nat) (p2 : Int32) (p3 : Int32) (k3 : St → Int32 → Option (Int32 × St)) : Nat → St → Int32 → Int32 → Int32 → Option (Int32 × St)
  | 0, _, _, _, _ => none
  | n + 1, S, l4, l5, l6 =>
    if (sI S t 25) ≤ l6 then (
      bnd (l4 + (1 : Int32)) fun x1 =>
      k3 S x1
    ) else (
      if l6 = l5 then (
        F_X12_hasPole_L85 sh f t p1 p2 p3 (F_X12_hasPole_L59 sh f t p1 p2 p3 k3 n) S l4 l5 l6 (-1 : Int32)
      ) else (
        (F_X12_sideOf sh f S t l6).bind fun y2 =>
        F_X12_hasPole_L85 sh f t p1 p2 p3 (F_X12_hasPole_L59 sh f t p1 p2 p3 k3 n) y2.2 l4 l5 l6 y2.1
      )
    )
def F_X12_hasPole_L3 (sh : List Sh) (f : Nat) (t : Nat) (p1 : Nat) (p2 : Int32) (p3 : Int32) : Nat → St → Int32 → Option (Int32 × St)
  | 0, _, _ => none
  | n + 1, S, l4 =>
    if (sI S p1 0) ≤ l4 then (
      some ((0 : Int32), S)
    ) else (
      (F_X12_isTree sh f S t p1 l4).bind fun y1 =>
      if y1.1 = 0 then (
        bnd (l4 + (1 : Int32)) fun x6 =>
        F_X12_hasPole_L3 sh f t p1 p2 p3 n y1.2 x6
      ) else (
        if p2 = (-1 : Int32) then (
          if p2 = (-1 : Int32) then (
            F_X12_hasPole_L59 sh f t p1 p2 p3 (F_X12_hasPole_L3 sh f t p1 p2 p3 n) f y1.2 l4 (-1 : Int32) (0 : Int32)
          ) else (
            if (-1 : Int32) = (-1 : Int32) then (
              bnd (l4 + (1 : Int32)) fun x5 =>
              F_X12_hasPole_L3 sh f t p1 p2 p3 n y1.2 x5
            ) else (
              F_X12_hasPole_L59 sh f t p1 p2 p3 (F_X12_hasPole_L3 sh f t p1 p2 p3 n) f y1.2 l4 (-1 : Int32) (0 : Int32)
            )
          )
        ) else (
          (F_X12_cutOf sh f y1.2 t p2 p3).bind fun y2 =>
          bnd y2.1 fun x3 =>
          if p2 = (-1 : Int32) then (
            F_X12_hasPole_L59 sh f t p1 p2 p3 (F_X12_hasPole_L3 sh f t p1 p2 p3 n) f y2.2 l4 x3 (0 : Int32)
          ) else (
            if x3 = (-1 : Int32) then (
              bnd (l4 + (1 : Int32)) fun x4 =>
              F_X12_hasPole_L3 sh f t p1 p2 p3 n y2.2 x4
            ) else (
              F_X12_hasPole_L59 sh f t p1 p2 p3 (F_X12_hasPole_L3 sh f t p1 p2 p3 n) f y2.2 l4 x3 (0 : Int32)
            )
          )
        )
      )
    )
def F_X12_hasPole (sh : List Sh) (f : Nat) (S : St) (t : Nat) (p1 : Nat) (p2 : Int32) (p3 : Int32) : Option (Int32 × St) :=
  F_X12_hasPole_L3 sh f t p1 p2 p3 f S (0 : Int32)
def F_X12_restOf_L198 (sh : List Sh) (f : Nat) (t : Nat) (p1 : Nat) (p2 : Int32) (p3 : Int32) (p4 : Int32) (k172 : St → Int64 → Int32 → Int32 → Int64 → Int64 → Int32 → Option (Int32 × St)) : St → Int64 → Int32 → Int32 → Int64 → Int64 → Int32 → Int32 → Option (Int32 × St) := fun S l5 l7 l8 l9 l11 l13 v0 =>
  if v0 = (-1 : Int32) then (
    bnd (l13 + (1 : Int32)) fun x1 =>
    k172 S l5 l7 l8 l9 l11 x1
  ) else (
    (F_X12_by sh f S t p1 l13 v0).bind fun y2 =>
    (F_X12_mod sh f S y2.toInt64 p2).bind fun y3 =>
    if p2.toInt64 = 0 then none else
    bnd ((l11 * y3.toInt64) - (l11 * y3.toInt64) / p2.toInt64 * p2.toInt64) fun x4 =>
    bnd (l13 + (1 : Int32)) fun x5 =>
    k172 S l5 l7 l8 l9 x4 x5
  )
def F_X12_restOf_L172 (sh : List Sh) (f : Nat) (t : Nat) (p1 : Nat) (p2 : Int32) (p3 : Int32) (p4 : Int32) (k6 : St → Int64 → Int32 → Option (Int32 × St)) : Nat → St → Int64 → Int32 → Int32 → Int64 → Int64 → Int32 → Option (Int32 × St)
  | 0, _, _, _, _, _, _, _ => none
  | n + 1, S, l5, l7, l8, l9, l11, l13 =>
    if (sI S t 25) ≤ l13 then (
      if (lg_cmp l11 (0 : Int64)) = 0 then (
        some ((-1 : Int32), S)
      ) else (
        (F_X12_inverse sh f S l11.toInt32 p2).bind fun y1 =>
        if p2.toInt64 = 0 then none else
        bnd ((l5 + (l9 * y1.toInt64)) - (l5 + (l9 * y1.toInt64)) / p2.toInt64 * p2.toInt64) fun x2 =>
        bnd (l7 + (1 : Int32)) fun x3 =>
        k6 S x2 x3
      )
    ) else (
      if l13 = l8 then (
        F_X12_restOf_L198 sh f t p1 p2 p3 p4 (F_X12_restOf_L172 sh f t p1 p2 p3 p4 k6 n) S l5 l7 l8 l9 l11 l13 (-1 : Int32)
      ) else (
        (F_X12_sideOf sh f S t l13).bind fun y4 =>
        F_X12_restOf_L198 sh f t p1 p2 p3 p4 (F_X12_restOf_L172 sh f t p1 p2 p3 p4 k6 n) y4.2 l5 l7 l8 l9 l11 l13 y4.1
      )
    )
def F_X12_restOf_L99 (sh : List Sh) (f : Nat) (t : Nat) (p1 : Nat) (p2 : Int32) (p3 : Int32) (p4 : Int32) (k6 : St → Int64 → Int32 → Option (Int32 × St)) : Nat → St → Int64 → Int32 → Int32 → Int64 → Int64 → Int32 → Option (Int32 × St)
  | 0, _, _, _, _, _, _, _ => none
  | n + 1, S, l5, l7, l8, l9, l11, l13 =>
    if (sI S p1 1) ≤ l13 then (
      F_X12_restOf_L172 sh f t p1 p2 p3 p4 k6 f S l5 l7 l8 l9 l11 (0 : Int32)
    ) else (
      if (((3 : Int32) * l7) + l13) < 0 ∨ 600 ≤ (((3 : Int32) * l7) + l13).toNatClampNeg then none else
      bnd (sA S (p1 + 3) (((3 : Int32) * l7) + l13).toNatClampNeg) fun x1 =>
      (sR S t 5).bind fun b2 =>
      if ckX9 sh b2 = true then (
        if x1 < 0 ∨ 4 ≤ x1.toNatClampNeg then none else
        (sR S t 5).bind fun b3 =>
        if ckX9 sh b3 = true then (
          if x1 < 0 ∨ 4 ≤ x1.toNatClampNeg then none else
          if (sA S (b3 + 9) x1.toNatClampNeg) < 0 ∨ 3 ≤ (sA S (b3 + 9) x1.toNatClampNeg).toNatClampNeg then none else
          (F_X12_mod sh f S (((sA S (b2 + 8) x1.toNatClampNeg).toInt64) * ((sA S (t + 16) (sA S (b3 + 9) x1.toNatClampNeg).toNatClampNeg).toInt64)) p2).bind fun y4 =>
          if p2.toInt64 = 0 then none else
          bnd ((l9 * y4.toInt64) - (l9 * y4.toInt64) / p2.toInt64 * p2.toInt64) fun x5 =>
          bnd (l13 + (1 : Int32)) fun x6 =>
          F_X12_restOf_L99 sh f t p1 p2 p3 p4 k6 n S l5 l7 l8 x5 l11 x6
        ) else none
      ) else none
    )
def F_X12_restOf_L60 (sh : List Sh) (f : Nat) (t : Nat) (p1 : Nat) (p2 : Int32) (p3 : Int32) (p4 : Int32) (k6 : St → Int64 → Int32 → Option (Int32 × St)) : St → Int64 → Int32 → Int32 → Option (Int32 × St) := fun S l5 l7 l8 =>
  (F_X12_signHere sh f S t).bind fun y1 =>
  if l7 < 0 ∨ 200 ≤ l7.toNatClampNeg then none else
  (F_X12_mod sh f S (y1.toInt64 * ((sA S (p1 + 4) l7.toNatClampNeg).toInt64)) p2).bind fun y2 =>
  bnd y2.toInt64 fun x3 =>
  if l7 < 0 ∨ 200 ≤ l7.toNatClampNeg then none else
  (F_X12_mod sh f S ((sA S (p1 + 5) l7.toNatClampNeg).toInt64) p2).bind fun y4 =>
  bnd y4.toInt64 fun x5 =>
  F_X12_restOf_L99 sh f t p1 p2 p3 p4 k6 f S l5 l7 l8 x3 x5 (0 : Int32)
def F_X12_restOf_L44 (sh : List Sh) (f : Nat) (t : Nat) (p1 : Nat) (p2 : Int32) (p3 : Int32) (p4 : Int32) (k6 : St → Int64 → Int32 → Option (Int32 × St)) : St → Int64 → Int32 → Int32 → Option (Int32 × St) := fun S l5 l7 v0 =>
  if p3 = (-1 : Int32) then (
    F_X12_restOf_L60 sh f t p1 p2 p3 p4 k6 S l5 l7 v0
  ) else (
    if v0 = (-1 : Int32) then (
      bnd (l7 + (1 : Int32)) fun x1 =>
      k6 S l5 x1
    ) else (
      F_X12_restOf_L60 sh f t p1 p2 p3 p4 k6 S l5 l7 v0
    )
  )
def F_X12_restOf_L6 (sh : List Sh) (f : Nat) (t : Nat) (p1 : Nat) (p2 : Int32) (p3 : Int32) (p4 : Int32) : Nat → St → Int64 → Int32 → Option (Int32 × St)
  | 0, _, _, _ => none
  | n + 1, S, l5, l7 =>
    if (sI S p1 0) ≤ l7 then (
      some (l5.toInt32, S)
    ) else (
      (F_X12_isTree sh f S t p1 l7).bind fun y1 =>
      if y1.1 = 0 then (
        bnd (l7 + (1 : Int32)) fun x3 =>
        F_X12_restOf_L6 sh f t p1 p2 p3 p4 n y1.2 l5 x3
      ) else (
        if p3 = (-1 : Int32) then (
          F_X12_restOf_L44 sh f t p1 p2 p3 p4 (F_X12_restOf_L6 sh f t p1 p2 p3 p4 n) y1.2 l5 l7 (-1 : Int32)
        ) else (
          (F_X12_cutOf sh f y1.2 t p3 p4).bind fun y2 =>
          F_X12_restOf_L44 sh f t p1 p2 p3 p4 (F_X12_restOf_L6 sh f t p1 p2 p3 p4 n) y2.2 l5 l7 y2.1
        )
      )
    )
def F_X12_restOf (sh : List Sh) (f : Nat) (S : St) (t : Nat) (p1 : Nat) (p2 : Int32) (p3 : Int32) (p4 : Int32) : Option (Int32 × St) :=
  F_X12_restOf_L6 sh f t p1 p2 p3 p4 f S (0 : Int64) (0 : Int32)
def F_X12_isFound_L318 (sh : List Sh) (f : Nat) (t : Nat) : Nat → St → Int32 → Option (Int32 × St)
  | 0, _, _ => none
  | n + 1, S, l24 =>
    if (4 : Int32) ≤ l24 then (
      some ((1 : Int32), S)
    ) else (
      if l24 < 0 ∨ 4 ≤ l24.toNatClampNeg then none else
      if l24 < 0 ∨ 4 ≤ l24.toNatClampNeg then none else
      bnd (uA S (t + 62) l24.toNatClampNeg (sA S (t + 61) l24.toNatClampNeg)) fun S1 =>
      bnd (l24 + (1 : Int32)) fun x2 =>
      F_X12_isFound_L318 sh f t n S1 x2
    )
def F_X12_isFound_L221 (sh : List Sh) (f : Nat) (t : Nat) : St → Int64 → Int64 → Int64 → Option (Int32 × St) := fun S l13 l19 v0 =>
  if (lg_cmp l19 (0 : Int64)) = 0 then (
    some ((0 : Int32), S)
  ) else (
    if 0 < (lg_cmp l19 (500000000 : Int64)) then (
      some ((0 : Int32), S)
    ) else (
      (F_X12_common sh f S l13.toInt32 l19.toInt32).bind fun y1 =>
      if y1 = (1 : Int32) then (
        (F_X12_prime sh f S (3 : Int32)).bind fun y2 =>
        (F_X12_mod sh f S l19 y2).bind fun y3 =>
        if y3 = 0 then (
          some ((0 : Int32), S)
        ) else (
          (F_X12_mod sh f S v0 y2).bind fun y4 =>
          if (3 : Int32) < 0 ∨ 4 ≤ (3 : Int32).toNatClampNeg then none else
          (F_X12_mod sh f S l19 y2).bind fun y5 =>
          if y2.toInt64 = 0 then none else
          if y4 = (((((sA S (t + 61) (3 : Int32).toNatClampNeg).toInt64) * y5.toInt64) - (((sA S (t + 61) (3 : Int32).toNatClampNeg).toInt64) * y5.toInt64) / y2.toInt64 * y2.toInt64).toInt32) then (
            bnd (uJ S t 53 v0) fun S6 =>
            bnd (uJ S6 t 54 l19) fun S7 =>
            F_X12_isFound_L318 sh f t f S7 (0 : Int32)
          ) else (
            some ((0 : Int32), S)
          )
        )
      ) else (
        some ((0 : Int32), S)
      )
    )
  )
def F_X12_isFound_L144 (sh : List Sh) (f : Nat) (t : Nat) : Nat → St → Int64 → Int64 → Int64 → Int64 → Option (Int32 × St)
  | 0, _, _, _, _, _ => none
  | n + 1, S, l11, l13, l15, l17 =>
    if (lg_cmp l13 (500000000 : Int64)) ≤ 0 then (
      (F_J9_abs_067f4 sh f S l17).bind fun y1 =>
      if 0 ≤ (lg_cmp l17 (0 : Int64)) then (
        F_X12_isFound_L221 sh f t S l13 y1 l13
      ) else (
        F_X12_isFound_L221 sh f t S l13 y1 (-l13)
      )
    ) else (
      if l13 = 0 then none else
      bnd (l11 / l13) fun x2 =>
      bnd (l11 - (x2 * l13)) fun x3 =>
      bnd (l15 - (x2 * l17)) fun x4 =>
      F_X12_isFound_L144 sh f t n S l13 x3 l17 x4
    )
def F_X12_isFound (sh : List Sh) (f : Nat) (S : St) (t : Nat) : Option (Int32 × St) :=
  (F_X12_prime sh f S (0 : Int32)).bind fun y1 =>
  bnd y1.toInt64 fun x2 =>
  (F_X12_prime sh f S (1 : Int32)).bind fun y3 =>
  bnd y3.toInt64 fun x4 =>
  if (0 : Int32) < 0 ∨ 4 ≤ (0 : Int32).toNatClampNeg then none else
  bnd ((sA S (t + 61) (0 : Int32).toNatClampNeg).toInt64) fun x5 =>
  if (1 : Int32) < 0 ∨ 4 ≤ (1 : Int32).toNatClampNeg then none else
  if x4 = 0 then none else
  (F_X12_prime sh f S (1 : Int32)).bind fun y6 =>
  (F_X12_mod sh f S x2 y6).bind fun y7 =>
  (F_X12_prime sh f S (1 : Int32)).bind fun y8 =>
  (F_X12_inverse sh f S y7 y8).bind fun y9 =>
  (F_X12_prime sh f S (1 : Int32)).bind fun y10 =>
  (F_X12_mod sh f S (((((sA S (t + 61) (1 : Int32).toNatClampNeg).toInt64) - x5) - (((sA S (t + 61) (1 : Int32).toNatClampNeg).toInt64) - x5) / x4 * x4) * y9.toInt64) y10).bind fun y11 =>
  bnd (x5 + (x2 * y11.toInt64)) fun x12 =>
  bnd (x2 * x4) fun x13 =>
  if (2 : Int32) < 0 ∨ 4 ≤ (2 : Int32).toNatClampNeg then none else
  (F_X12_prime sh f S (2 : Int32)).bind fun y14 =>
  (F_X12_mod sh f S (((sA S (t + 61) (2 : Int32).toNatClampNeg).toInt64) - x12) y14).bind fun y15 =>
  bnd y15.toInt64 fun x16 =>
  (F_X12_prime sh f S (2 : Int32)).bind fun y17 =>
  (F_X12_mod sh f S x13 y17).bind fun y18 =>
  (F_X12_prime sh f S (2 : Int32)).bind fun y19 =>
  (F_X12_inverse sh f S y18 y19).bind fun y20 =>
  (F_X12_prime sh f S (2 : Int32)).bind fun y21 =>
  if y21.toInt64 = 0 then none else
  bnd (x12 + (x13 * ((x16 * y20.toInt64) - (x16 * y20.toInt64) / y21.toInt64 * y21.toInt64))) fun x22 =>
  (F_X12_prime sh f S (2 : Int32)).bind fun y23 =>
  bnd (x13 * y23.toInt64) fun x24 =>
  F_X12_isFound_L144 sh f t f S x24 x22 (0 : Int64) (1 : Int64)
