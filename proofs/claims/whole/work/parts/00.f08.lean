def F_X12_poled (sh : List Sh) (f : Nat) (S : St) (t : Nat) : Option (Int32 × St) :=
  (F_X12_denied sh f S t (5 : Int32)).bind fun y1 =>
  bnd y1.1 fun x2 =>
  bnd (uI y1.2 t 4 (sI y1.2 t 57)) fun S3 =>
  if ¬ (x2 = 0 ∨ x2 = 1) then none else
  some (x2, S3)
def F_X12_isEven__L4 (sh : List Sh) (f : Nat) (S : St) (t : Nat) (p1 : Nat) : Nat → Int32 → Int32 → Option (Int32)
  | 0, _, _ => none
  | n + 1, l2, l3 =>
    if (sI S p1 2) ≤ l3 then (
      if l2 = 0 then (
        some (1 : Int32)
      ) else (
        some (0 : Int32)
      )
    ) else (
      if l3 < 0 ∨ 6 ≤ l3.toNatClampNeg then none else
      bnd (l2 + (sA S (p1 + 2) l3.toNatClampNeg)) fun x1 =>
      bnd (l3 + (1 : Int32)) fun x2 =>
      F_X12_isEven__L4 sh f S t p1 n x1 x2
    )
def F_X12_isEven_ (sh : List Sh) (f : Nat) (S : St) (t : Nat) (p1 : Nat) : Option (Int32) :=
  F_X12_isEven__L4 sh f S t p1 f (0 : Int32) (0 : Int32)
def F_X12_tells_L133 (sh : List Sh) (f : Nat) (t : Nat) (p1 : Int32) (p2 : Int32) (p3 : Int32) (p4 : Int32) : Nat → St → Int32 → Int32 → Option (Int32 × St)
  | 0, _, _, _ => none
  | n + 1, S, l5, l6 =>
    if (4 : Int32) ≤ l6 then (
      (F_X12_isFound sh f S t).bind fun y1 =>
      if y1.1 = 0 then (
        (F_X12_denied sh f y1.2 t (6 : Int32)).bind fun y2 =>
        if ¬ (y2.1 = 0 ∨ y2.1 = 1) then none else
        some (y2.1, y2.2)
      ) else (
        (F_X12_granted sh f y1.2 t).bind fun y3 =>
        if ¬ (y3.1 = 0 ∨ y3.1 = 1) then none else
        some (y3.1, y3.2)
      )
    ) else (
      (F_X12_prime sh f S l6).bind fun y4 =>
      (F_X12_restOf sh f S t (t + 24) y4 p1 l5).bind fun y5 =>
      if l6 < 0 ∨ 4 ≤ l6.toNatClampNeg then none else
      bnd (uA y5.2 (t + 61) l6.toNatClampNeg y5.1) fun S6 =>
      if l6 < 0 ∨ 4 ≤ l6.toNatClampNeg then none else
      if (sA S6 (t + 61) l6.toNatClampNeg) = (-1 : Int32) then (
        (F_X12_denied sh f S6 t (6 : Int32)).bind fun y8 =>
        if ¬ (y8.1 = 0 ∨ y8.1 = 1) then none else
        some (y8.1, y8.2)
      ) else (
        bnd (l6 + (1 : Int32)) fun x7 =>
        F_X12_tells_L133 sh f t p1 p2 p3 p4 n S6 l5 x7
      )
    )
def F_X12_tells (sh : List Sh) (f : Nat) (S : St) (t : Nat) (p1 : Int32) (p2 : Int32) (p3 : Int32) (p4 : Int32) : Option (Int32 × St) :=
  if (sI S t 17) = 0 then (
    (F_X12_denied sh f S t (1 : Int32)).bind fun y16 =>
    if ¬ (y16.1 = 0 ∨ y16.1 = 1) then none else
    some (y16.1, y16.2)
  ) else (
    (F_X12_in sh f S p3 p4 (3 : Int32)).bind fun y1 =>
    if y1 = 0 then (
      (F_X12_denied sh f S t (2 : Int32)).bind fun y15 =>
      if ¬ (y15.1 = 0 ∨ y15.1 = 1) then none else
      some (y15.1, y15.2)
    ) else (
      (F_X12_copiesEnds sh f S t (t + 24)).bind fun y2 =>
      (F_X12_isDrawn sh f y2 t (t + 24)).bind fun y3 =>
      if y3 = 0 then (
        (F_X12_denied sh f y2 t (7 : Int32)).bind fun y14 =>
        if ¬ (y14.1 = 0 ∨ y14.1 = 1) then none else
        some (y14.1, y14.2)
      ) else (
        (F_X12_isEven_ sh f y2 t (t + 24)).bind fun y4 =>
        if y4 = 0 then (
          (F_X12_denied sh f y2 t (8 : Int32)).bind fun y13 =>
          if ¬ (y13.1 = 0 ∨ y13.1 = 1) then none else
          some (y13.1, y13.2)
        ) else (
          (F_X12_fills sh f y2 t (t + 24) p3).bind fun y5 =>
          if y5.1 = 0 then (
            (F_X12_denied sh f y5.2 t (3 : Int32)).bind fun y12 =>
            if ¬ (y12.1 = 0 ∨ y12.1 = 1) then none else
            some (y12.1, y12.2)
          ) else (
            if p1 = (-1 : Int32) then (
              (F_X12_hasPole sh f y5.2 t (t + 24) p1 (-1 : Int32)).bind fun y10 =>
              if y10.1 = 0 then (
                F_X12_tells_L133 sh f t p1 p2 p3 p4 f y10.2 (-1 : Int32) (0 : Int32)
              ) else (
                (F_X12_poled sh f y10.2 t).bind fun y11 =>
                if ¬ (y11.1 = 0 ∨ y11.1 = 1) then none else
                some (y11.1, y11.2)
              )
            ) else (
              (sR y5.2 t 5).bind fun b6 =>
              if ckX9 sh b6 = true then (
                if p2 < 0 ∨ 8 ≤ p2.toNatClampNeg then none else
                bnd (sA y5.2 (b6 + 2) p2.toNatClampNeg) fun x7 =>
                (F_X12_hasPole sh f y5.2 t (t + 24) p1 x7).bind fun y8 =>
                if y8.1 = 0 then (
                  F_X12_tells_L133 sh f t p1 p2 p3 p4 f y8.2 x7 (0 : Int32)
                ) else (
                  (F_X12_poled sh f y8.2 t).bind fun y9 =>
                  if ¬ (y9.1 = 0 ∨ y9.1 = 1) then none else
                  some (y9.1, y9.2)
                )
              ) else none
            )
          )
        )
      )
    )
  )
def F_X12_at (sh : List Sh) (f : Nat) (S : St) (t : Nat) (p1 : Int32) : Option (Int32 × St) :=
  bnd (uI S t 0 (0 : Int32)) fun S1 =>
  (F_X12_tells sh f S1 t (-1 : Int32) (-1 : Int32) p1 (1 : Int32)).bind fun y2 =>
  if ¬ (y2.1 = 0 ∨ y2.1 = 1) then none else
  some (y2.1, y2.2)
def F_X12_isSide_L4 (sh : List Sh) (f : Nat) (S : St) (t : Nat) (p1 : Int32) : Nat → Int32 → Int32 → Option (Int32)
  | 0, _, _ => none
  | n + 1, l2, l3 =>
    if (sI S t 17) ≤ l3 then (
      if (sI S t 17) ≤ 0 then (
        some (0 : Int32)
      ) else (
        if p1 ≤ 0 then (
          some (0 : Int32)
        ) else (
          if ((1 : Int32) <<< ((sI S t 17) &&& 31)) ≤ p1 then (
            some (0 : Int32)
          ) else (
            if (p1 &&& (1 : Int32)) = (1 : Int32) then (
              if l2 ≤ (1 : Int32) then (
                some (0 : Int32)
              ) else (
                if ((sI S t 17) - l2) ≤ (1 : Int32) then (
                  some (0 : Int32)
                ) else (
                  some (1 : Int32)
                )
              )
            ) else (
              some (0 : Int32)
            )
          )
        )
      )
    ) else (
      bnd (l2 + ((p1 >>> (l3 &&& 31)) &&& (1 : Int32))) fun x1 =>
      bnd (l3 + (1 : Int32)) fun x2 =>
      F_X12_isSide_L4 sh f S t p1 n x1 x2
    )
def F_X12_isSide (sh : List Sh) (f : Nat) (S : St) (t : Nat) (p1 : Int32) : Option (Int32) :=
  F_X12_isSide_L4 sh f S t p1 f (0 : Int32) (0 : Int32)
def F_X12_parts_L11 (sh : List Sh) (f : Nat) (t : Nat) (p1 : Nat) (p2 : Int32) (p3 : Int32) : Nat → St → Int32 → Int32 → Option (St)
  | 0, _, _, _ => none
  | n + 1, S, l4, l5 =>
    if (sI S t 17) ≤ l5 then (
      if (sI S p1 2) < 0 ∨ 6 ≤ (sI S p1 2).toNatClampNeg then none else
      bnd (uA S (p1 + 1) (sI S p1 2).toNatClampNeg p3) fun S1 =>
      if (sI S1 p1 2) < 0 ∨ 6 ≤ (sI S1 p1 2).toNatClampNeg then none else
      bnd (uA S1 (p1 + 2) (sI S1 p1 2).toNatClampNeg (-l4)) fun S2 =>
      bnd (uI S2 p1 2 ((sI S2 p1 2) + (1 : Int32))) fun S3 =>
      some S3
    ) else (
      if ((p2 >>> (l5 &&& 31)) &&& (1 : Int32)) = 0 then (
        bnd (l5 + (1 : Int32)) fun x9 =>
        F_X12_parts_L11 sh f t p1 p2 p3 n S l4 x9
      ) else (
        if l5 < 0 ∨ 6 ≤ l5.toNatClampNeg then none else
        if (sI S p1 2) < 0 ∨ 6 ≤ (sI S p1 2).toNatClampNeg then none else
        bnd (uA S (p1 + 1) (sI S p1 2).toNatClampNeg (sA S (t + 14) l5.toNatClampNeg)) fun S4 =>
        if l5 < 0 ∨ 6 ≤ l5.toNatClampNeg then none else
        if (sI S4 p1 2) < 0 ∨ 6 ≤ (sI S4 p1 2).toNatClampNeg then none else
        bnd (uA S4 (p1 + 2) (sI S4 p1 2).toNatClampNeg (sA S4 (t + 15) l5.toNatClampNeg)) fun S5 =>
        if l5 < 0 ∨ 6 ≤ l5.toNatClampNeg then none else
        bnd (l4 + (sA S5 (t + 15) l5.toNatClampNeg)) fun x6 =>
        bnd (uI S5 p1 2 ((sI S5 p1 2) + (1 : Int32))) fun S7 =>
        bnd (l5 + (1 : Int32)) fun x8 =>
        F_X12_parts_L11 sh f t p1 p2 p3 n S7 x6 x8
      )
    )
def F_X12_parts (sh : List Sh) (f : Nat) (S : St) (t : Nat) (p1 : Nat) (p2 : Int32) (p3 : Int32) : Option (St) :=
  bnd (uI S p1 2 (0 : Int32)) fun S1 =>
  F_X12_parts_L11 sh f t p1 p2 p3 f S1 (0 : Int32) (0 : Int32)
def F_X12_parted_L246 (sh : List Sh) (f : Nat) (t : Nat) (p1 : Int32) (p2 : Int32) (p3 : Int32) (k207 : St → Int32 → Option (Int32 × St)) : St → Int32 → Int32 → Option (Int32 × St) := fun S l6 v0 =>
  (F_X12_hasPole sh f S t (t + 24) (-1 : Int32) (-1 : Int32)).bind fun y1 =>
  if y1.1 = 0 then (
    (F_X12_hasPole sh f y1.2 t (t + 31) (-1 : Int32) (-1 : Int32)).bind fun y3 =>
    if y3.1 = 0 then (
      bnd (l6 + (1 : Int32)) fun x4 =>
      k207 y3.2 x4
    ) else (
      (F_X12_poled sh f y3.2 t).bind fun y5 =>
      if ¬ (y5.1 = 0 ∨ y5.1 = 1) then none else
      some (y5.1, y5.2)
    )
  ) else (
    (F_X12_poled sh f y1.2 t).bind fun y2 =>
    if ¬ (y2.1 = 0 ∨ y2.1 = 1) then none else
    some (y2.1, y2.2)
  )
def F_X12_parted_L245 (sh : List Sh) (f : Nat) (t : Nat) (p1 : Int32) (p2 : Int32) (p3 : Int32) (k207 : St → Int32 → Option (Int32 × St)) : St → Int32 → Option (Int32 × St) := fun S l6 =>
  F_X12_parted_L246 sh f t p1 p2 p3 k207 S l6 (0 : Int32)
def F_X12_parted_L420 (sh : List Sh) (f : Nat) (t : Nat) (p1 : Int32) (p2 : Int32) (p3 : Int32) (k358 : St → Int32 → Int32 → Int32 → Option (Int32 × St)) : St → Int32 → Int32 → Int32 → Int32 → Int32 → Option (Int32 × St) := fun S l7 l9 l10 l11 v0 =>
  if l9 < 0 ∨ 4 ≤ l9.toNatClampNeg then none else
  (F_X12_prime sh f S l9).bind fun y1 =>
  if y1.toInt64 = 0 then none else
  if l9 < 0 ∨ 4 ≤ l9.toNatClampNeg then none else
  bnd (uA S (t + 61) l9.toNatClampNeg (((((sA S (t + 61) l9.toNatClampNeg).toInt64) + (l10.toInt64 * l11.toInt64)) - (((sA S (t + 61) l9.toNatClampNeg).toInt64) + (l10.toInt64 * l11.toInt64)) / y1.toInt64 * y1.toInt64).toInt32)) fun S2 =>
  bnd (l9 + (1 : Int32)) fun x3 =>
  k358 S2 v0 l7 x3
def F_X12_parted_L415 (sh : List Sh) (f : Nat) (t : Nat) (p1 : Int32) (p2 : Int32) (p3 : Int32) (k358 : St → Int32 → Int32 → Int32 → Option (Int32 × St)) : St → Int32 → Int32 → Int32 → Int32 → Option (Int32 × St) := fun S l7 l9 l10 l11 =>
  F_X12_parted_L420 sh f t p1 p2 p3 k358 S l7 l9 l10 l11 (1 : Int32)
def F_X12_parted_L358 (sh : List Sh) (f : Nat) (t : Nat) (p1 : Int32) (p2 : Int32) (p3 : Int32) (k314 : St → Int32 → Int32 → Option (Int32 × St)) : Nat → St → Int32 → Int32 → Int32 → Option (Int32 × St)
  | 0, _, _, _, _ => none
  | n + 1, S, l6, l7, l9 =>
    if (4 : Int32) ≤ l9 then (
      bnd (l7 + (1 : Int32)) fun x1 =>
      k314 S l6 x1
    ) else (
      (F_X12_prime sh f S l9).bind fun y2 =>
      (F_X12_restOf sh f S t (t + 24) y2 (-1 : Int32) (-1 : Int32)).bind fun y3 =>
      bnd y3.1 fun x4 =>
      (F_X12_prime sh f y3.2 l9).bind fun y5 =>
      (F_X12_restOf sh f y3.2 t (t + 31) y5 (-1 : Int32) (-1 : Int32)).bind fun y6 =>
      bnd y6.1 fun x7 =>
      if l6 = 0 then (
        if x4 = (-1 : Int32) then (
          F_X12_parted_L415 sh f t p1 p2 p3 (F_X12_parted_L358 sh f t p1 p2 p3 k314 n) y6.2 l7 l9 x4 x7
        ) else (
          if x7 = (-1 : Int32) then (
            F_X12_parted_L415 sh f t p1 p2 p3 (F_X12_parted_L358 sh f t p1 p2 p3 k314 n) y6.2 l7 l9 x4 x7
          ) else (
            F_X12_parted_L420 sh f t p1 p2 p3 (F_X12_parted_L358 sh f t p1 p2 p3 k314 n) y6.2 l7 l9 x4 x7 (0 : Int32)
          )
        )
      ) else (
        F_X12_parted_L415 sh f t p1 p2 p3 (F_X12_parted_L358 sh f t p1 p2 p3 k314 n) y6.2 l7 l9 x4 x7
      )
    )
def F_X12_parted_L314 (sh : List Sh) (f : Nat) (t : Nat) (p1 : Int32) (p2 : Int32) (p3 : Int32) : Nat → St → Int32 → Int32 → Option (Int32 × St)
  | 0, _, _, _ => none
  | n + 1, S, l6, l7 =>
    if p3 ≤ l7 then (
      if l6 = 0 then (
        (F_X12_isFound sh f S t).bind fun y2 =>
        if y2.1 = 0 then (
          (F_X12_denied sh f y2.2 t (6 : Int32)).bind fun y3 =>
          if ¬ (y3.1 = 0 ∨ y3.1 = 1) then none else
          some (y3.1, y3.2)
        ) else (
          (F_X12_granted sh f y2.2 t).bind fun y4 =>
          if ¬ (y4.1 = 0 ∨ y4.1 = 1) then none else
          some (y4.1, y4.2)
        )
      ) else (
        (F_X12_denied sh f S t (6 : Int32)).bind fun y1 =>
        if ¬ (y1.1 = 0 ∨ y1.1 = 1) then none else
        some (y1.1, y1.2)
      )
    ) else (
      (F_X12_fills sh f S t (t + 24) l7).bind fun y5 =>
      if y5.1 = 0 then (
        F_X12_parted_L358 sh f t p1 p2 p3 (F_X12_parted_L314 sh f t p1 p2 p3 n) f y5.2 l6 l7 (0 : Int32)
      ) else (
        (F_X12_fills sh f y5.2 t (t + 31) (p3 - l7)).bind fun y6 =>
        if y6.1 = 0 then (
          F_X12_parted_L358 sh f t p1 p2 p3 (F_X12_parted_L314 sh f t p1 p2 p3 n) f y6.2 l6 l7 (0 : Int32)
        ) else (
          F_X12_parted_L358 sh f t p1 p2 p3 (F_X12_parted_L314 sh f t p1 p2 p3 n) f y6.2 l6 l7 (0 : Int32)
        )
      )
    )
def F_X12_parted_L288 (sh : List Sh) (f : Nat) (t : Nat) (p1 : Int32) (p2 : Int32) (p3 : Int32) : Nat → St → Int32 → Option (Int32 × St)
  | 0, _, _ => none
  | n + 1, S, l6 =>
    if (4 : Int32) ≤ l6 then (
      F_X12_parted_L314 sh f t p1 p2 p3 f S (0 : Int32) (1 : Int32)
    ) else (
      if l6 < 0 ∨ 4 ≤ l6.toNatClampNeg then none else
      bnd (uA S (t + 61) l6.toNatClampNeg (0 : Int32)) fun S1 =>
      bnd (l6 + (1 : Int32)) fun x2 =>
      F_X12_parted_L288 sh f t p1 p2 p3 n S1 x2
    )
def F_X12_parted_L207 (sh : List Sh) (f : Nat) (t : Nat) (p1 : Int32) (p2 : Int32) (p3 : Int32) : Nat → St → Int32 → Option (Int32 × St)
  | 0, _, _ => none
  | n + 1, S, l6 =>
    if p3 ≤ l6 then (
      F_X12_parted_L288 sh f t p1 p2 p3 f S (0 : Int32)
    ) else (
      (F_X12_fills sh f S t (t + 24) l6).bind fun y1 =>
      if y1.1 = 0 then (
        F_X12_parted_L245 sh f t p1 p2 p3 (F_X12_parted_L207 sh f t p1 p2 p3 n) y1.2 l6
      ) else (
        (F_X12_fills sh f y1.2 t (t + 31) (p3 - l6)).bind fun y2 =>
        if y2.1 = 0 then (
          F_X12_parted_L245 sh f t p1 p2 p3 (F_X12_parted_L207 sh f t p1 p2 p3 n) y2.2 l6
        ) else (
          F_X12_parted_L246 sh f t p1 p2 p3 (F_X12_parted_L207 sh f t p1 p2 p3 n) y2.2 l6 (1 : Int32)
        )
      )
    )
def F_X12_parted_L158 (sh : List Sh) (f : Nat) (t : Nat) (p1 : Int32) (p2 : Int32) (p3 : Int32) : Nat → St → Int32 → Option (Int32 × St)
  | 0, _, _ => none
  | n + 1, S, l6 =>
    if p3 ≤ l6 then (
      F_X12_parted_L207 sh f t p1 p2 p3 f S (1 : Int32)
    ) else (
      (F_X12_fills sh f S t (t + 24) l6).bind fun y1 =>
      if y1.1 = 0 then (
        (F_X12_denied sh f y1.2 t (3 : Int32)).bind fun y2 =>
        if ¬ (y2.1 = 0 ∨ y2.1 = 1) then none else
        some (y2.1, y2.2)
      ) else (
        (F_X12_fills sh f y1.2 t (t + 31) (p3 - l6)).bind fun y3 =>
        if y3.1 = 0 then (
          (F_X12_denied sh f y3.2 t (3 : Int32)).bind fun y5 =>
          if ¬ (y5.1 = 0 ∨ y5.1 = 1) then none else
          some (y5.1, y5.2)
        ) else (
          bnd (l6 + (1 : Int32)) fun x4 =>
          F_X12_parted_L158 sh f t p1 p2 p3 n y3.2 x4
        )
      )
    )
def F_X12_parted (sh : List Sh) (f : Nat) (S : St) (t : Nat) (p1 : Int32) (p2 : Int32) (p3 : Int32) : Option (Int32 × St) :=
  bnd (uI S t 0 (0 : Int32)) fun S1 =>
  (F_X12_isSide sh f S1 t p1).bind fun y2 =>
  if y2 = 0 then (
    (F_X12_denied sh f S1 t (1 : Int32)).bind fun y3 =>
    if ¬ (y3.1 = 0 ∨ y3.1 = 1) then none else
    some (y3.1, y3.2)
  ) else (
    (F_X12_isKind sh f S1 t p2).bind fun y4 =>
    if y4 = 0 then (
      (F_X12_denied sh f S1 t (1 : Int32)).bind fun y19 =>
      if ¬ (y19.1 = 0 ∨ y19.1 = 1) then none else
      some (y19.1, y19.2)
    ) else (
      (F_X12_in sh f S1 p3 (2 : Int32) (3 : Int32)).bind fun y5 =>
      if y5 = 0 then (
        (F_X12_denied sh f S1 t (2 : Int32)).bind fun y18 =>
        if ¬ (y18.1 = 0 ∨ y18.1 = 1) then none else
        some (y18.1, y18.2)
      ) else (
        (F_X12_copiesEnds sh f S1 t (t + 24)).bind fun y6 =>
        (F_X12_isDrawn sh f y6 t (t + 24)).bind fun y7 =>
        (F_X12_isEven_ sh f y6 t (t + 24)).bind fun y8 =>
        (F_X12_parts sh f y6 t (t + 24) p1 p2).bind fun y9 =>
        (sR y9 t 5).bind fun b10 =>
        if ckX9 sh b10 = true then (
          if p2 < 0 ∨ 8 ≤ p2.toNatClampNeg then none else
          (F_X12_parts sh f y9 t (t + 31) ((((1 : Int32) <<< ((sI y9 t 17) &&& 31)) - (1 : Int32)) &&& (p1 ^^^ (-1 : Int32))) (sA y9 (b10 + 2) p2.toNatClampNeg)).bind fun y11 =>
          if y7 = 0 then (
            (F_X12_denied sh f y11 t (7 : Int32)).bind fun y12 =>
            if ¬ (y12.1 = 0 ∨ y12.1 = 1) then none else
            some (y12.1, y12.2)
          ) else (
            (F_X12_isDrawn sh f y11 t (t + 24)).bind fun y13 =>
            if y13 = 0 then (
              (F_X12_denied sh f y11 t (7 : Int32)).bind fun y14 =>
              if ¬ (y14.1 = 0 ∨ y14.1 = 1) then none else
              some (y14.1, y14.2)
            ) else (
              (F_X12_isDrawn sh f y11 t (t + 31)).bind fun y15 =>
              if y15 = 0 then (
                (F_X12_denied sh f y11 t (7 : Int32)).bind fun y17 =>
                if ¬ (y17.1 = 0 ∨ y17.1 = 1) then none else
                some (y17.1, y17.2)
              ) else (
                if y8 = 0 then (
                  (F_X12_denied sh f y11 t (8 : Int32)).bind fun y16 =>
                  if ¬ (y16.1 = 0 ∨ y16.1 = 1) then none else
                  some (y16.1, y16.2)
                ) else (
                  F_X12_parted_L158 sh f t p1 p2 p3 f y11 (1 : Int32)
                )
              )
            )
          )
        ) else none
      )
    )
  )
def F_X12_whole (sh : List Sh) (f : Nat) (S : St) (t : Nat) (p1 : Int32) (p2 : Int32) (p3 : Int32) : Option (Int32 × St) :=
  bnd (uI S t 0 (0 : Int32)) fun S1 =>
  (F_X12_isSide sh f S1 t p1).bind fun y2 =>
  if y2 = 0 then (
    (F_X12_denied sh f S1 t (1 : Int32)).bind fun y3 =>
    if ¬ (y3.1 = 0 ∨ y3.1 = 1) then none else
    some (y3.1, y3.2)
  ) else (
    (F_X12_isKind sh f S1 t p2).bind fun y4 =>
    if y4 = 0 then (
      (F_X12_denied sh f S1 t (1 : Int32)).bind fun y5 =>
      if ¬ (y5.1 = 0 ∨ y5.1 = 1) then none else
      some (y5.1, y5.2)
    ) else (
      (F_X12_tells sh f S1 t p1 p2 p3 (2 : Int32)).bind fun y6 =>
      if ¬ (y6.1 = 0 ∨ y6.1 = 1) then none else
      some (y6.1, y6.2)
    )
  )
