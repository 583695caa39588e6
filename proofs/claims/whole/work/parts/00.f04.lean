def F_X12_fills (sh : List Sh) (f : Nat) (S : St) (t : Nat) (p1 : Nat) (p2 : Int32) : Option (Int32 × St) :=
  bnd (uI S p1 1 p2) fun S1 =>
  bnd (uI S1 p1 0 (0 : Int32)) fun S2 =>
  bnd (uI S2 p1 3 (0 : Int32)) fun S3 =>
  (F_X12_lists sh f 10 S3 t p1 (0 : Int32) (0 : Int32)).bind fun y4 =>
  if ¬ (y4.1 = 0 ∨ y4.1 = 1) then none else
  some (y4.1, y4.2)
def F_X12_copiesEnds_L10 (sh : List Sh) (f : Nat) (t : Nat) (p1 : Nat) : Nat → St → Int32 → Option (St)
  | 0, _, _ => none
  | n + 1, S, l2 =>
    if (sI S t 17) ≤ l2 then (
      some S
    ) else (
      if l2 < 0 ∨ 6 ≤ l2.toNatClampNeg then none else
      if l2 < 0 ∨ 6 ≤ l2.toNatClampNeg then none else
      bnd (uA S (p1 + 1) l2.toNatClampNeg (sA S (t + 14) l2.toNatClampNeg)) fun S1 =>
      if l2 < 0 ∨ 6 ≤ l2.toNatClampNeg then none else
      if l2 < 0 ∨ 6 ≤ l2.toNatClampNeg then none else
      bnd (uA S1 (p1 + 2) l2.toNatClampNeg (sA S1 (t + 15) l2.toNatClampNeg)) fun S2 =>
      bnd (l2 + (1 : Int32)) fun x3 =>
      F_X12_copiesEnds_L10 sh f t p1 n S2 x3
    )
def F_X12_copiesEnds (sh : List Sh) (f : Nat) (S : St) (t : Nat) (p1 : Nat) : Option (St) :=
  bnd (uI S p1 2 (sI S t 17)) fun S1 =>
  F_X12_copiesEnds_L10 sh f t p1 f S1 (0 : Int32)
def F_X12_isDrawn_L7 (sh : List Sh) (f : Nat) (S : St) (t : Nat) (p1 : Nat) : Nat → Int32 → Int32 → Int32 → Option (Int32)
  | 0, _, _, _ => none
  | n + 1, l2, l3, l4 =>
    if (sI S p1 2) ≤ l4 then (
      if l2 = 0 then (
        if (l3 - l3 / (2 : Int32) * (2 : Int32)) = 0 then (
          some (1 : Int32)
        ) else (
          some (0 : Int32)
        )
      ) else (
        some (0 : Int32)
      )
    ) else (
      (sR S t 5).bind fun b1 =>
      if ckX9 sh b1 = true then (
        if l4 < 0 ∨ 6 ≤ l4.toNatClampNeg then none else
        if (sA S (p1 + 1) l4.toNatClampNeg) < 0 ∨ 8 ≤ (sA S (p1 + 1) l4.toNatClampNeg).toNatClampNeg then none else
        bnd (l2 + (sA S (b1 + 4) (sA S (p1 + 1) l4.toNatClampNeg).toNatClampNeg)) fun x2 =>
        (sR S t 5).bind fun b3 =>
        if ckX9 sh b3 = true then (
          if l4 < 0 ∨ 6 ≤ l4.toNatClampNeg then none else
          if (sA S (p1 + 1) l4.toNatClampNeg) < 0 ∨ 8 ≤ (sA S (p1 + 1) l4.toNatClampNeg).toNatClampNeg then none else
          if (sA S (b3 + 5) (sA S (p1 + 1) l4.toNatClampNeg).toNatClampNeg) = (2 : Int32) then (
            bnd (l3 + (1 : Int32)) fun x6 =>
            bnd (l4 + (1 : Int32)) fun x7 =>
            F_X12_isDrawn_L7 sh f S t p1 n x2 x6 x7
          ) else (
            bnd (l3 + (0 : Int32)) fun x4 =>
            bnd (l4 + (1 : Int32)) fun x5 =>
            F_X12_isDrawn_L7 sh f S t p1 n x2 x4 x5
          )
        ) else none
      ) else none
    )
def F_X12_isDrawn (sh : List Sh) (f : Nat) (S : St) (t : Nat) (p1 : Nat) : Option (Int32) :=
  F_X12_isDrawn_L7 sh f S t p1 f (0 : Int32) (0 : Int32) (0 : Int32)
def F_X12_drawings_L222 (sh : List Sh) (f : Nat) (t : Nat) (p1 : Int32) (k155 : St → Int32 → Option (Int32 × St)) : Nat → St → Int32 → Int32 → Option (Int32 × St)
  | 0, _, _, _ => none
  | n + 1, S, l2, l3 =>
    if (3 : Int32) ≤ l3 then (
      bnd (l2 + (1 : Int32)) fun x1 =>
      k155 S x1
    ) else (
      if (((3 : Int32) * l2) + l3) < 0 ∨ 600 ≤ (((3 : Int32) * l2) + l3).toNatClampNeg then none else
      if (((3 : Int32) * l2) + l3) < 0 ∨ 600 ≤ (((3 : Int32) * l2) + l3).toNatClampNeg then none else
      bnd (uA S ((t + 17) + 3) (((3 : Int32) * l2) + l3).toNatClampNeg (sA S ((t + 24) + 3) (((3 : Int32) * l2) + l3).toNatClampNeg)) fun S2 =>
      bnd (l3 + (1 : Int32)) fun x3 =>
      F_X12_drawings_L222 sh f t p1 k155 n S2 l2 x3
    )
def F_X12_drawings_L155 (sh : List Sh) (f : Nat) (t : Nat) (p1 : Int32) : Nat → St → Int32 → Option (Int32 × St)
  | 0, _, _ => none
  | n + 1, S, l2 =>
    if (sI S (t + 24) 0) ≤ l2 then (
      bnd (uI S t 18 (1 : Int32)) fun S1 =>
      (F_X12_done sh f S1 t (sI S1 (t + 17) 0)).bind fun y2 =>
      some (y2.1, y2.2)
    ) else (
      if l2 < 0 ∨ 200 ≤ l2.toNatClampNeg then none else
      if l2 < 0 ∨ 200 ≤ l2.toNatClampNeg then none else
      bnd (uL S ((t + 17) + 6) l2.toNatClampNeg (sL S ((t + 24) + 6) l2.toNatClampNeg)) fun S3 =>
      if l2 < 0 ∨ 200 ≤ l2.toNatClampNeg then none else
      if l2 < 0 ∨ 200 ≤ l2.toNatClampNeg then none else
      bnd (uA S3 ((t + 17) + 4) l2.toNatClampNeg (sA S3 ((t + 24) + 4) l2.toNatClampNeg)) fun S4 =>
      if l2 < 0 ∨ 200 ≤ l2.toNatClampNeg then none else
      if l2 < 0 ∨ 200 ≤ l2.toNatClampNeg then none else
      bnd (uA S4 ((t + 17) + 5) l2.toNatClampNeg (sA S4 ((t + 24) + 5) l2.toNatClampNeg)) fun S5 =>
      F_X12_drawings_L222 sh f t p1 (F_X12_drawings_L155 sh f t p1 n) f S5 l2 (0 : Int32)
    )
def F_X12_drawings_L126 (sh : List Sh) (f : Nat) (t : Nat) (p1 : Int32) : Nat → St → Int32 → Option (Int32 × St)
  | 0, _, _ => none
  | n + 1, S, l2 =>
    if (6 : Int32) ≤ l2 then (
      F_X12_drawings_L155 sh f t p1 f S (0 : Int32)
    ) else (
      if l2 < 0 ∨ 6 ≤ l2.toNatClampNeg then none else
      if l2 < 0 ∨ 6 ≤ l2.toNatClampNeg then none else
      bnd (uA S ((t + 17) + 1) l2.toNatClampNeg (sA S (t + 14) l2.toNatClampNeg)) fun S1 =>
      bnd (l2 + (1 : Int32)) fun x2 =>
      F_X12_drawings_L126 sh f t p1 n S1 x2
    )
def F_X12_drawings (sh : List Sh) (f : Nat) (S : St) (t : Nat) (p1 : Int32) : Option (Int32 × St) :=
  bnd (uI S t 0 (0 : Int32)) fun S1 =>
  if (sI S1 t 17) = 0 then (
    (F_X12_refused sh f S1 t (1 : Int32)).bind fun y13 =>
    some (y13.1, y13.2)
  ) else (
    (F_X12_in sh f S1 p1 (1 : Int32) (3 : Int32)).bind fun y2 =>
    if y2 = 0 then (
      (F_X12_refused sh f S1 t (2 : Int32)).bind fun y12 =>
      some (y12.1, y12.2)
    ) else (
      (F_X12_copiesEnds sh f S1 t (t + 24)).bind fun y3 =>
      (F_X12_isDrawn sh f y3 t (t + 24)).bind fun y4 =>
      if y4 = 0 then (
        (F_X12_refused sh f y3 t (7 : Int32)).bind fun y11 =>
        some (y11.1, y11.2)
      ) else (
        (F_X12_fills sh f y3 t (t + 24) p1).bind fun y5 =>
        if y5.1 = 0 then (
          (F_X12_refused sh f y5.2 t (3 : Int32)).bind fun y10 =>
          some (y10.1, y10.2)
        ) else (
          bnd (uI y5.2 (t + 17) 1 p1) fun S6 =>
          bnd (uI S6 (t + 17) 0 (sI S6 (t + 24) 0)) fun S7 =>
          bnd (uI S7 (t + 17) 3 (sI S7 (t + 24) 3)) fun S8 =>
          bnd (uI S8 (t + 17) 2 (sI S8 t 17)) fun S9 =>
          F_X12_drawings_L126 sh f t p1 f S9 (0 : Int32)
        )
      )
    )
  )
def F_X12_isDrawing (sh : List Sh) (f : Nat) (S : St) (t : Nat) (p1 : Int32) : Option (Int32) :=
  if (sI S t 18) = 0 then (
    some (0 : Int32)
  ) else (
    if p1 < 0 then (
      some (0 : Int32)
    ) else (
      if (sI S (t + 17) 0) ≤ p1 then (
        some (0 : Int32)
      ) else (
        some (1 : Int32)
      )
    )
  )
def F_X12_shows (sh : List Sh) (f : Nat) (S : St) (t : Nat) (p1 : Nat) (p2 : Int32) : Option (St) :=
  (F_X12_lays sh f S t p1 (p1 + 3) 600 ((3 : Int32) * p2)).bind fun y1 =>
  bnd y1.1 fun x2 =>
  if p2 < 0 ∨ 200 ≤ p2.toNatClampNeg then none else
  (F_X12_takes sh f y1.2 t (sL y1.2 (p1 + 6) p2.toNatClampNeg)).bind fun y3 =>
  some y3
def F_X12_isInner (sh : List Sh) (f : Nat) (S : St) (t : Nat) (p1 : Int32) : Option (Int32) :=
  if p1 < 0 ∨ 12 ≤ p1.toNatClampNeg then none else
  if (sA S (t + 39) p1.toNatClampNeg) < ((sI S t 26) - (sI S t 40)) then (
    some (0 : Int32)
  ) else (
    if p1 < 0 ∨ 12 ≤ p1.toNatClampNeg then none else
    if (sA S (t + 40) p1.toNatClampNeg) < 0 ∨ 12 ≤ (sA S (t + 40) p1.toNatClampNeg).toNatClampNeg then none else
    if (sA S (t + 39) (sA S (t + 40) p1.toNatClampNeg).toNatClampNeg) < ((sI S t 26) - (sI S t 40)) then (
      some (0 : Int32)
    ) else (
      if p1 < 0 ∨ 12 ≤ p1.toNatClampNeg then none else
      if (sA S (t + 40) p1.toNatClampNeg) ≤ p1 then (
        some (0 : Int32)
      ) else (
        some (1 : Int32)
      )
    )
  )
def F_X12_inners_L4 (sh : List Sh) (f : Nat) (S : St) (t : Nat) : Nat → Int32 → Int32 → Option (Int32)
  | 0, _, _ => none
  | n + 1, l1, l2 =>
    if (sI S t 25) ≤ l2 then (
      some l1
    ) else (
      (F_X12_isInner sh f S t l2).bind fun y1 =>
      if y1 = 0 then (
        bnd (l1 + (0 : Int32)) fun x2 =>
        bnd (l2 + (1 : Int32)) fun x3 =>
        F_X12_inners_L4 sh f S t n x2 x3
      ) else (
        bnd (l1 + (1 : Int32)) fun x4 =>
        bnd (l2 + (1 : Int32)) fun x5 =>
        F_X12_inners_L4 sh f S t n x4 x5
      )
    )
def F_X12_inners (sh : List Sh) (f : Nat) (S : St) (t : Nat) : Option (Int32) :=
  F_X12_inners_L4 sh f S t f (0 : Int32) (0 : Int32)
def F_X12_sideOf_L23 (sh : List Sh) (f : Nat) (t : Nat) (p1 : Int32) : Nat → St → Int32 → Int32 → Option (Int32 × St)
  | 0, _, _, _ => none
  | n + 1, S, l2, l3 =>
    if ((sI S t 26) - (sI S t 40)) ≤ l3 then (
      some (l2, S)
    ) else (
      if l3 < 0 ∨ 9 ≤ l3.toNatClampNeg then none else
      if (0 : Int32) < 0 ∨ 9 ≤ (0 : Int32).toNatClampNeg then none else
      if (sA S (t + 42) l3.toNatClampNeg) = (sA S (t + 42) (0 : Int32).toNatClampNeg) then (
        bnd (l2 ||| ((1 : Int32) <<< (l3 &&& 31))) fun x3 =>
        bnd (l3 + (1 : Int32)) fun x4 =>
        F_X12_sideOf_L23 sh f t p1 n S x3 x4
      ) else (
        bnd (l2 ||| (0 : Int32)) fun x1 =>
        bnd (l3 + (1 : Int32)) fun x2 =>
        F_X12_sideOf_L23 sh f t p1 n S x1 x2
      )
    )
def F_X12_sideOf (sh : List Sh) (f : Nat) (S : St) (t : Nat) (p1 : Int32) : Option (Int32 × St) :=
  (F_X12_isInner sh f S t p1).bind fun y1 =>
  if y1 = 0 then (
    some ((-1 : Int32), S)
  ) else (
    (F_X12_sets sh f S t p1).bind fun y2 =>
    if (2 : Int32) ≤ y2.1 then (
      F_X12_sideOf_L23 sh f t p1 f y2.2 (0 : Int32) (0 : Int32)
    ) else (
      some ((-1 : Int32), y2.2)
    )
  )
def F_X12_cuts_L4 (sh : List Sh) (f : Nat) (t : Nat) : Nat → St → Int32 → Int32 → Option (Int32 × St)
  | 0, _, _, _ => none
  | n + 1, S, l1, l2 =>
    if (sI S t 25) ≤ l2 then (
      some (l1, S)
    ) else (
      (F_X12_sideOf sh f S t l2).bind fun y1 =>
      if y1.1 = (-1 : Int32) then (
        bnd (l1 + (0 : Int32)) fun x2 =>
        bnd (l2 + (1 : Int32)) fun x3 =>
        F_X12_cuts_L4 sh f t n y1.2 x2 x3
      ) else (
        bnd (l1 + (1 : Int32)) fun x4 =>
        bnd (l2 + (1 : Int32)) fun x5 =>
        F_X12_cuts_L4 sh f t n y1.2 x4 x5
      )
    )
def F_X12_cuts (sh : List Sh) (f : Nat) (S : St) (t : Nat) : Option (Int32 × St) :=
  F_X12_cuts_L4 sh f t f S (0 : Int32) (0 : Int32)
def F_X12_isHalf (sh : List Sh) (f : Nat) (S : St) (t : Nat) (p1 : Int32) : Option (Int32) :=
  (sR S t 5).bind fun b1 =>
  if ckX9 sh b1 = true then (
    if p1 < 0 ∨ 12 ≤ p1.toNatClampNeg then none else
    if (sA S (t + 38) p1.toNatClampNeg) < 0 ∨ 8 ≤ (sA S (t + 38) p1.toNatClampNeg).toNatClampNeg then none else
    if (sA S (b1 + 5) (sA S (t + 38) p1.toNatClampNeg).toNatClampNeg) = (2 : Int32) then (
      some (1 : Int32)
    ) else (
      some (0 : Int32)
    )
  ) else none
def F_X12_signHere_L57 (sh : List Sh) (f : Nat) (S : St) (t : Nat) (k4 : Int32 → Int32 → Option (Int32)) : Nat → Int32 → Int32 → Int32 → Option (Int32)
  | 0, _, _, _ => none
  | n + 1, l1, l2, l3 =>
    if l2 < 0 ∨ 12 ≤ l2.toNatClampNeg then none else
    if (sA S (t + 40) l2.toNatClampNeg) ≤ l3 then (
      bnd (l2 + (1 : Int32)) fun x1 =>
      k4 l1 x1
    ) else (
      (F_X12_isHalf sh f S t l3).bind fun y2 =>
      if y2 = 0 then (
        bnd (l3 + (1 : Int32)) fun x3 =>
        F_X12_signHere_L57 sh f S t k4 n l1 l2 x3
      ) else (
        if l3 < 0 ∨ 12 ≤ l3.toNatClampNeg then none else
        if l2 < 0 ∨ 12 ≤ l2.toNatClampNeg then none else
        if (sA S (t + 40) l3.toNatClampNeg) ≤ (sA S (t + 40) l2.toNatClampNeg) then (
          bnd (l3 + (1 : Int32)) fun x4 =>
          F_X12_signHere_L57 sh f S t k4 n l1 l2 x4
        ) else (
          bnd (-l1) fun x5 =>
          bnd (l3 + (1 : Int32)) fun x6 =>
          F_X12_signHere_L57 sh f S t k4 n x5 l2 x6
        )
      )
    )
def F_X12_signHere_L4 (sh : List Sh) (f : Nat) (S : St) (t : Nat) : Nat → Int32 → Int32 → Option (Int32)
  | 0, _, _ => none
  | n + 1, l1, l2 =>
    if (sI S t 25) ≤ l2 then (
      some l1
    ) else (
      (F_X12_isHalf sh f S t l2).bind fun y1 =>
      if y1 = 0 then (
        bnd (l2 + (1 : Int32)) fun x2 =>
        F_X12_signHere_L4 sh f S t n l1 x2
      ) else (
        if l2 < 0 ∨ 12 ≤ l2.toNatClampNeg then none else
        if l2 ≤ (sA S (t + 40) l2.toNatClampNeg) then (
          (sR S t 5).bind fun b3 =>
          if ckX9 sh b3 = true then (
            if l2 < 0 ∨ 12 ≤ l2.toNatClampNeg then none else
            if (sA S (t + 38) l2.toNatClampNeg) < 0 ∨ 8 ≤ (sA S (t + 38) l2.toNatClampNeg).toNatClampNeg then none else
            if (sA S (b3 + 10) (sA S (t + 38) l2.toNatClampNeg).toNatClampNeg) = 0 then (
              bnd (l2 + (1 : Int32)) fun x4 =>
              F_X12_signHere_L57 sh f S t (F_X12_signHere_L4 sh f S t n) f l1 l2 x4
            ) else (
              bnd (-l1) fun x5 =>
              bnd (l2 + (1 : Int32)) fun x6 =>
              F_X12_signHere_L57 sh f S t (F_X12_signHere_L4 sh f S t n) f x5 l2 x6
            )
          ) else none
        ) else (
          bnd (l2 + (1 : Int32)) fun x7 =>
          F_X12_signHere_L4 sh f S t n l1 x7
        )
      )
    )
def F_X12_signHere (sh : List Sh) (f : Nat) (S : St) (t : Nat) : Option (Int32) :=
  F_X12_signHere_L4 sh f S t f (1 : Int32) (0 : Int32)
def F_X12_common_L4 (sh : List Sh) (f : Nat) (S : St) (p0 : Int32) (p1 : Int32) : Nat → Int32 → Int32 → Option (Int32)
  | 0, _, _ => none
  | n + 1, l2, l3 =>
    if l2 ≤ 0 then (
      some l3
    ) else (
      if l2 = 0 then none else
      bnd (l3 - l3 / l2 * l2) fun x1 =>
      F_X12_common_L4 sh f S p0 p1 n x1 l2
    )
def F_X12_common (sh : List Sh) (f : Nat) (S : St) (p0 : Int32) (p1 : Int32) : Option (Int32) :=
  F_X12_common_L4 sh f S p0 p1 f p0 p1
def F_X12_drawing (sh : List Sh) (f : Nat) (S : St) (t : Nat) (p1 : Int32) (p2 : Int32) : Option (Int32 × St) :=
  bnd (uI S t 0 (0 : Int32)) fun S1 =>
  (F_X12_isDrawing sh f S1 t p1).bind fun y2 =>
  if y2 = 0 then (
    some ((-2147483648 : Int32), S1)
  ) else (
    bnd (uI S1 t 40 (sI S1 (t + 17) 1)) fun S3 =>
    (F_X12_shows sh f S3 t (t + 17) p1).bind fun y4 =>
    if p1 < 0 ∨ 200 ≤ p1.toNatClampNeg then none else
    if p1 < 0 ∨ 200 ≤ p1.toNatClampNeg then none else
    (F_X12_common sh f y4 (sA y4 ((t + 17) + 4) p1.toNatClampNeg) (sA y4 ((t + 17) + 5) p1.toNatClampNeg)).bind fun y5 =>
    if p2 = (0 : Int32) then (
      if p1 < 0 ∨ 200 ≤ p1.toNatClampNeg then none else
      if y5 = 0 then none else
      some (((sA y4 ((t + 17) + 4) p1.toNatClampNeg) / y5), y4)
    ) else (
    if p2 = (1 : Int32) then (
      if p1 < 0 ∨ 200 ≤ p1.toNatClampNeg then none else
      if y5 = 0 then none else
      some (((sA y4 ((t + 17) + 5) p1.toNatClampNeg) / y5), y4)
    ) else (
    if p2 = (2 : Int32) then (
      (F_X12_signHere sh f y4 t).bind fun y6 =>
      some (y6, y4)
    ) else (
    if p2 = (3 : Int32) then (
      (F_X12_inners sh f y4 t).bind fun y7 =>
      some (((y7 - (sI y4 (t + 17) 1)) + (1 : Int32)), y4)
    ) else (
    if p2 = (4 : Int32) then (
      (F_X12_cuts sh f y4 t).bind fun y8 =>
      some (y8.1, y8.2)
    ) else (
    if p2 = (5 : Int32) then (
      if p1 < 0 ∨ 200 ≤ p1.toNatClampNeg then none else
      some ((sA y4 ((t + 17) + 4) p1.toNatClampNeg), y4)
    ) else (
    if p2 = (6 : Int32) then (
      (F_X12_inners sh f y4 t).bind fun y9 =>
      some (y9, y4)
    ) else (
      some ((-2147483648 : Int32), y4)
    )
    )
    )
    )
    )
    )
    )
  )
