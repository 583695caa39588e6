def F_X4_inRow (sh : List Sh) (f : Nat) (S : St) (p0 : Int32) (p1 : Int32) : Option (Int64) :=
  some (p1.toInt64 <<< (((4 : Int32) * ((11 : Int32) - p0)).toInt64 &&& 63))
def F_X5_linksOf_L11 (sh : List Sh) (f : Nat) (S : St) (t : Nat) (p1 : Int64) : Nat → Int32 → Int32 → Option (Int32)
  | 0, _, _ => none
  | n + 1, l3, l4 =>
    if (sI S (t + 1) 9) ≤ l4 then (
      some l3
    ) else (
      (F_X4_partnerIn sh f S p1 l4).bind fun y1 =>
      (F_X4_link sh f S (t + 1) l4 y1).bind fun y2 =>
      bnd (l3 ||| y2) fun x3 =>
      bnd (l4 + (1 : Int32)) fun x4 =>
      F_X5_linksOf_L11 sh f S t p1 n x3 x4
    )
def F_X5_linksOf (sh : List Sh) (f : Nat) (S : St) (t : Nat) (p1 : Int64) : Option (Int32) :=
  bnd (sI S (t + 1) 8) fun x1 =>
  F_X5_linksOf_L11 sh f S t p1 f (0 : Int32) x1
def F_X5_tally_L6 (sh : List Sh) (f : Nat) (t : Nat) (p1 : Int64) (p3 : Int32) : Nat → St → Int32 → Int32 → Option (Int32 × St)
  | 0, _, _, _ => none
  | n + 1, S, l4, l5 =>
    if (sI S (t + 1) 9) ≤ l5 then (
      some (l4, S)
    ) else (
      (F_X4_partnerIn sh f S p1 l5).bind fun y1 =>
      if y1 ≤ l5 then (
        bnd (l5 + (1 : Int32)) fun x2 =>
        F_X5_tally_L6 sh f t p1 p3 n S l4 x2
      ) else (
        if l5 < 0 ∨ 12 ≤ l5.toNatClampNeg then none else
        (F_X4_swapped sh f S (t + 1) (sA S ((t + 1) + 3) l5.toNatClampNeg) p3).bind fun y3 =>
        if y1 < 0 ∨ 12 ≤ y1.toNatClampNeg then none else
        (F_X4_swapped sh f S (t + 1) (sA S ((t + 1) + 3) y1.toNatClampNeg) p3).bind fun y4 =>
        if ((y3 * (12 : Int32)) + y4) < 0 ∨ 144 ≤ ((y3 * (12 : Int32)) + y4).toNatClampNeg then none else
        if ((y3 * (12 : Int32)) + y4) < 0 ∨ 144 ≤ ((y3 * (12 : Int32)) + y4).toNatClampNeg then none else
        bnd (uA S (t + 9) ((y3 * (12 : Int32)) + y4).toNatClampNeg ((sA S (t + 9) ((y3 * (12 : Int32)) + y4).toNatClampNeg) + (1 : Int32))) fun S5 =>
        if ((y3 * (12 : Int32)) + y4) < 0 ∨ 144 ≤ ((y3 * (12 : Int32)) + y4).toNatClampNeg then none else
        bnd (l4 * (sA S5 (t + 9) ((y3 * (12 : Int32)) + y4).toNatClampNeg)) fun x6 =>
        if y3 = y4 then (
          bnd (x6 * (2 : Int32)) fun x9 =>
          bnd (l5 + (1 : Int32)) fun x10 =>
          F_X5_tally_L6 sh f t p1 p3 n S5 x9 x10
        ) else (
          if ((y4 * (12 : Int32)) + y3) < 0 ∨ 144 ≤ ((y4 * (12 : Int32)) + y3).toNatClampNeg then none else
          if ((y4 * (12 : Int32)) + y3) < 0 ∨ 144 ≤ ((y4 * (12 : Int32)) + y3).toNatClampNeg then none else
          bnd (uA S5 (t + 9) ((y4 * (12 : Int32)) + y3).toNatClampNeg ((sA S5 (t + 9) ((y4 * (12 : Int32)) + y3).toNatClampNeg) + (1 : Int32))) fun S7 =>
          bnd (l5 + (1 : Int32)) fun x8 =>
          F_X5_tally_L6 sh f t p1 p3 n S7 x6 x8
        )
      )
    )
def F_X5_tally (sh : List Sh) (f : Nat) (S : St) (t : Nat) (p1 : Int64) (p3 : Int32) : Option (Int32 × St) :=
  F_X5_tally_L6 sh f t p1 p3 f S (1 : Int32) (0 : Int32)
def F_X5_firstTallied_L4 (sh : List Sh) (f : Nat) (S : St) (t : Nat) (p1 : Int32) (p2 : Int32) : Nat → Int32 → Option (Int32)
  | 0, _ => none
  | n + 1, l3 =>
    if (sI S (t + 1) 9) ≤ l3 then (
      some (-1 : Int32)
    ) else (
      if ((p2 >>> (l3 &&& 31)) &&& (1 : Int32)) = 0 then (
        bnd (l3 + (1 : Int32)) fun x1 =>
        F_X5_firstTallied_L4 sh f S t p1 p2 n x1
      ) else (
        if p1 < 0 ∨ 12 ≤ p1.toNatClampNeg then none else
        if l3 < 0 ∨ 12 ≤ l3.toNatClampNeg then none else
        if (((sA S ((t + 1) + 3) p1.toNatClampNeg) * (12 : Int32)) + (sA S ((t + 1) + 3) l3.toNatClampNeg)) < 0 ∨ 144 ≤ (((sA S ((t + 1) + 3) p1.toNatClampNeg) * (12 : Int32)) + (sA S ((t + 1) + 3) l3.toNatClampNeg)).toNatClampNeg then none else
        if (sA S (t + 9) (((sA S ((t + 1) + 3) p1.toNatClampNeg) * (12 : Int32)) + (sA S ((t + 1) + 3) l3.toNatClampNeg)).toNatClampNeg) ≤ 0 then (
          bnd (l3 + (1 : Int32)) fun x2 =>
          F_X5_firstTallied_L4 sh f S t p1 p2 n x2
        ) else (
          some l3
        )
      )
    )
def F_X5_firstTallied (sh : List Sh) (f : Nat) (S : St) (t : Nat) (p1 : Int32) (p2 : Int32) : Option (Int32) :=
  bnd (p1 + (1 : Int32)) fun x1 =>
  F_X5_firstTallied_L4 sh f S t p1 p2 f x1
def F_X5_leastTallied_L118 (sh : List Sh) (f : Nat) (t : Nat) (k13 : St → Int32 → Int64 → Int32 → Option (Int64 × St)) : St → Int32 → Int64 → Int32 → Int32 → Option (Int64 × St) := fun S l1 l2 l4 l5 =>
  bnd (l1 &&& ((((1 : Int32) <<< (l4 &&& 31)) ||| ((1 : Int32) <<< (l5 &&& 31))) ^^^ (-1 : Int32))) fun x1 =>
  (F_X4_inRow sh f S l4 l5).bind fun y2 =>
  (F_X4_inRow sh f S l5 l4).bind fun y3 =>
  bnd (l2 ||| (y2 ||| y3)) fun x4 =>
  bnd (l4 + (1 : Int32)) fun x5 =>
  k13 S x1 x4 x5
def F_X5_leastTallied_L45 (sh : List Sh) (f : Nat) (t : Nat) (k13 : St → Int32 → Int64 → Int32 → Option (Int64 × St)) : St → Int32 → Int64 → Int32 → Int32 → Option (Int64 × St) := fun S l1 l2 l4 v0 =>
  if v0 = (-1 : Int32) then (
    bnd (l4 + (1 : Int32)) fun x1 =>
    k13 S l1 l2 x1
  ) else (
    if l4 < 0 ∨ 12 ≤ l4.toNatClampNeg then none else
    bnd (sA S ((t + 1) + 3) l4.toNatClampNeg) fun x2 =>
    if v0 < 0 ∨ 12 ≤ v0.toNatClampNeg then none else
    bnd (sA S ((t + 1) + 3) v0.toNatClampNeg) fun x3 =>
    if ((x2 * (12 : Int32)) + x3) < 0 ∨ 144 ≤ ((x2 * (12 : Int32)) + x3).toNatClampNeg then none else
    if ((x2 * (12 : Int32)) + x3) < 0 ∨ 144 ≤ ((x2 * (12 : Int32)) + x3).toNatClampNeg then none else
    bnd (uA S (t + 9) ((x2 * (12 : Int32)) + x3).toNatClampNeg ((sA S (t + 9) ((x2 * (12 : Int32)) + x3).toNatClampNeg) - (1 : Int32))) fun S4 =>
    if x2 = x3 then (
      F_X5_leastTallied_L118 sh f t k13 S4 l1 l2 l4 v0
    ) else (
      if ((x3 * (12 : Int32)) + x2) < 0 ∨ 144 ≤ ((x3 * (12 : Int32)) + x2).toNatClampNeg then none else
      if ((x3 * (12 : Int32)) + x2) < 0 ∨ 144 ≤ ((x3 * (12 : Int32)) + x2).toNatClampNeg then none else
      bnd (uA S4 (t + 9) ((x3 * (12 : Int32)) + x2).toNatClampNeg ((sA S4 (t + 9) ((x3 * (12 : Int32)) + x2).toNatClampNeg) - (1 : Int32))) fun S5 =>
      F_X5_leastTallied_L118 sh f t k13 S5 l1 l2 l4 v0
    )
  )
def F_X5_leastTallied_L13 (sh : List Sh) (f : Nat) (t : Nat) : Nat → St → Int32 → Int64 → Int32 → Option (Int64 × St)
  | 0, _, _, _, _ => none
  | n + 1, S, l1, l2, l4 =>
    if (sI S (t + 1) 9) ≤ l4 then (
      some (l2, S)
    ) else (
      if ((l1 >>> (l4 &&& 31)) &&& (1 : Int32)) = 0 then (
        F_X5_leastTallied_L45 sh f t (F_X5_leastTallied_L13 sh f t n) S l1 l2 l4 (-1 : Int32)
      ) else (
        (F_X5_firstTallied sh f S t l4 l1).bind fun y1 =>
        F_X5_leastTallied_L45 sh f t (F_X5_leastTallied_L13 sh f t n) S l1 l2 l4 y1
      )
    )
def F_X5_leastTallied (sh : List Sh) (f : Nat) (S : St) (t : Nat) : Option (Int64 × St) :=
  (F_X4_allLegs sh f S (t + 1)).bind fun y1 =>
  F_X5_leastTallied_L13 sh f t f S y1 (0 : Int64) (0 : Int32)
def F_X5_heaviesOf_L12 (sh : List Sh) (f : Nat) (S : St) (t : Nat) (p1 : Nat) (p2 : Int64) : Nat → Int32 → Int32 → Option (Int32)
  | 0, _, _ => none
  | n + 1, l4, l5 =>
    if (sI S (t + 1) 9) ≤ l5 then (
      some l4
    ) else (
      (F_X4_partnerIn sh f S p2 l5).bind fun y1 =>
      if y1 ≤ l5 then (
        bnd (l5 + (1 : Int32)) fun x2 =>
        F_X5_heaviesOf_L12 sh f S t p1 p2 n l4 x2
      ) else (
        if l5 < 0 ∨ 12 ≤ l5.toNatClampNeg then none else
        if (sA S ((t + 1) + 1) l5.toNatClampNeg) < 0 ∨ 8 ≤ (sA S ((t + 1) + 1) l5.toNatClampNeg).toNatClampNeg then none else
        bnd (l4 * (sA S (p1 + 3) (sA S ((t + 1) + 1) l5.toNatClampNeg).toNatClampNeg)) fun x3 =>
        bnd (l5 + (1 : Int32)) fun x4 =>
        F_X5_heaviesOf_L12 sh f S t p1 p2 n x3 x4
      )
    )
def F_X5_heaviesOf (sh : List Sh) (f : Nat) (S : St) (t : Nat) (p1 : Nat) (p2 : Int64) : Option (Int32) :=
  bnd (sI S (t + 1) 8) fun x1 =>
  F_X5_heaviesOf_L12 sh f S t p1 p2 f (1 : Int32) x1
def F_X5_doubledLinks_L14 (sh : List Sh) (f : Nat) (S : St) (t : Nat) (p1 : Int64) : Nat → Int32 → Int32 → Int32 → Option (Int32)
  | 0, _, _, _ => none
  | n + 1, l3, l4, l5 =>
    if (sI S (t + 1) 9) ≤ l5 then (
      some l4
    ) else (
      (F_X4_partnerIn sh f S p1 l5).bind fun y1 =>
      if y1 ≤ l5 then (
        bnd (l5 + (1 : Int32)) fun x2 =>
        F_X5_doubledLinks_L14 sh f S t p1 n l3 l4 x2
      ) else (
        (F_X4_link sh f S (t + 1) l5 y1).bind fun y3 =>
        bnd (l4 ||| (l3 &&& y3)) fun x4 =>
        bnd (l3 ||| y3) fun x5 =>
        bnd (l5 + (1 : Int32)) fun x6 =>
        F_X5_doubledLinks_L14 sh f S t p1 n x5 x4 x6
      )
    )
def F_X5_doubledLinks (sh : List Sh) (f : Nat) (S : St) (t : Nat) (p1 : Int64) : Option (Int32) :=
  bnd (sI S (t + 1) 8) fun x1 =>
  F_X5_doubledLinks_L14 sh f S t p1 f (0 : Int32) (0 : Int32) x1
def F_X5_reach_L53 (sh : List Sh) (f : Nat) (S : St) (t : Nat) (p1 : Int64) (p3 : Int32) (k26 : Int32 → Int32 → Int32 → Option (Int32)) : Int32 → Int32 → Int32 → Int32 → Option (Int32) := fun l4 l5 l6 v0 =>
  if ((p3 >>> (l6 &&& 31)) &&& (1 : Int32)) = 0 then (
    bnd (l6 + (1 : Int32)) fun x1 =>
    k26 l4 l5 x1
  ) else (
    if (l4 &&& v0) = 0 then (
      bnd (l6 + (1 : Int32)) fun x2 =>
      k26 l4 l5 x2
    ) else (
      bnd (l4 ||| v0) fun x3 =>
      bnd (l6 + (1 : Int32)) fun x4 =>
      k26 x3 l5 x4
    )
  )
def F_X5_reach_L26 (sh : List Sh) (f : Nat) (S : St) (t : Nat) (p1 : Int64) (p3 : Int32) (k17 : Int32 → Int32 → Option (Int32)) : Nat → Int32 → Int32 → Int32 → Option (Int32)
  | 0, _, _, _ => none
  | n + 1, l4, l5, l6 =>
    if (3 : Int32) ≤ l6 then (
      bnd (l5 + (1 : Int32)) fun x1 =>
      k17 l4 x1
    ) else (
      if l6 = 0 then (
        F_X5_reach_L53 sh f S t p1 p3 (F_X5_reach_L26 sh f S t p1 p3 k17 n) l4 l5 l6 (3 : Int32)
      ) else (
        if l6 = (1 : Int32) then (
          F_X5_reach_L53 sh f S t p1 p3 (F_X5_reach_L26 sh f S t p1 p3 k17 n) l4 l5 l6 (5 : Int32)
        ) else (
          F_X5_reach_L53 sh f S t p1 p3 (F_X5_reach_L26 sh f S t p1 p3 k17 n) l4 l5 l6 (6 : Int32)
        )
      )
    )
def F_X5_reach_L17 (sh : List Sh) (f : Nat) (S : St) (t : Nat) (p1 : Int64) (p3 : Int32) : Nat → Int32 → Int32 → Option (Int32)
  | 0, _, _ => none
  | n + 1, l4, l5 =>
    if (3 : Int32) ≤ l5 then (
      some l4
    ) else (
      F_X5_reach_L26 sh f S t p1 p3 (F_X5_reach_L17 sh f S t p1 p3 n) f l4 l5 (0 : Int32)
    )
def F_X5_reach (sh : List Sh) (f : Nat) (S : St) (t : Nat) (p1 : Int64) (p3 : Int32) : Option (Int32) :=
  (F_X4_partnerIn sh f S p1 (0 : Int32)).bind fun y1 =>
  (F_X4_pointBit sh f S (t + 1) y1).bind fun y2 =>
  F_X5_reach_L17 sh f S t p1 p3 f y2 (1 : Int32)
def F_X5_endsAt_L6 (sh : List Sh) (f : Nat) (S : St) (t : Nat) (p1 : Int64) (p3 : Int32) : Nat → Int32 → Int32 → Option (Int32)
  | 0, _, _ => none
  | n + 1, l4, l5 =>
    if (sI S (t + 1) 8) ≤ l5 then (
      some l4
    ) else (
      (F_X4_partnerIn sh f S p1 l5).bind fun y1 =>
      (F_X4_pointBit sh f S (t + 1) y1).bind fun y2 =>
      if (y2 &&& p3) = 0 then (
        bnd (l5 + (1 : Int32)) fun x3 =>
        F_X5_endsAt_L6 sh f S t p1 p3 n l4 x3
      ) else (
        bnd (l4 ||| ((1 : Int32) <<< (l5 &&& 31))) fun x4 =>
        bnd (l5 + (1 : Int32)) fun x5 =>
        F_X5_endsAt_L6 sh f S t p1 p3 n x4 x5
      )
    )
def F_X5_endsAt (sh : List Sh) (f : Nat) (S : St) (t : Nat) (p1 : Int64) (p3 : Int32) : Option (Int32) :=
  F_X5_endsAt_L6 sh f S t p1 p3 f (0 : Int32) (0 : Int32)
def F_X5_findCuts_L120 (sh : List Sh) (f : Nat) (t : Nat) (p1 : Int64) (p3 : Int32) (k16 : St → Int32 → Int32 → Option (St)) : St → Int32 → Int32 → Int32 → Int32 → Option (St) := fun S l4 l5 l8 v0 =>
  (sR S t 2).bind fun b1 =>
  if ckX3 sh b1 = true then (
    (F_X5_endsAt sh f S t p1 l8).bind fun y2 =>
    if v0 < 0 ∨ 12 ≤ v0.toNatClampNeg then none else
    (F_X3_addCut sh f S b1 y2 (sA S ((t + 1) + 1) v0.toNatClampNeg)).bind fun y3 =>
    bnd (l5 + (1 : Int32)) fun x4 =>
    k16 y3 l4 x4
  ) else none
def F_X5_findCuts_L16 (sh : List Sh) (f : Nat) (t : Nat) (p1 : Int64) (p3 : Int32) : Nat → St → Int32 → Int32 → Option (St)
  | 0, _, _, _ => none
  | n + 1, S, l4, l5 =>
    if (sI S (t + 1) 9) ≤ l5 then (
      some S
    ) else (
      (F_X4_partnerIn sh f S p1 l5).bind fun y1 =>
      (F_X4_link sh f S (t + 1) l5 y1).bind fun y2 =>
      if y1 ≤ l5 then (
        bnd (l5 + (1 : Int32)) fun x3 =>
        F_X5_findCuts_L16 sh f t p1 p3 n S l4 x3
      ) else (
        if y2 = 0 then (
          bnd (l5 + (1 : Int32)) fun x4 =>
          F_X5_findCuts_L16 sh f t p1 p3 n S l4 x4
        ) else (
          if (l4 &&& y2) = 0 then (
            (F_X4_hangs sh f S (t + 1) (p3 &&& (y2 ^^^ (-1 : Int32)))).bind fun y6 =>
            if y6 = 0 then (
              (F_X5_reach sh f S t p1 (p3 &&& (y2 ^^^ (-1 : Int32)))).bind fun y8 =>
              (F_X4_pointBit sh f S (t + 1) l5).bind fun y9 =>
              if (y8 &&& y9) = 0 then (
                F_X5_findCuts_L120 sh f t p1 p3 (F_X5_findCuts_L16 sh f t p1 p3 n) S l4 l5 y8 y1
              ) else (
                F_X5_findCuts_L120 sh f t p1 p3 (F_X5_findCuts_L16 sh f t p1 p3 n) S l4 l5 y8 l5
              )
            ) else (
              bnd (l5 + (1 : Int32)) fun x7 =>
              F_X5_findCuts_L16 sh f t p1 p3 n S l4 x7
            )
          ) else (
            bnd (l5 + (1 : Int32)) fun x5 =>
            F_X5_findCuts_L16 sh f t p1 p3 n S l4 x5
          )
        )
      )
    )
def F_X5_findCuts (sh : List Sh) (f : Nat) (S : St) (t : Nat) (p1 : Int64) (p3 : Int32) : Option (St) :=
  (F_X5_doubledLinks sh f S t p1).bind fun y1 =>
  bnd (sI S (t + 1) 8) fun x2 =>
  F_X5_findCuts_L16 sh f t p1 p3 f S y1 x2
def F_X5_keepIfLeast_L29 (sh : List Sh) (f : Nat) (t : Nat) (p1 : Nat) (p2 : Int64) (p4 : Int32) : Nat → St → Int32 → Int32 → Int32 → Int32 → Option (St)
  | 0, _, _, _, _, _ => none
  | n + 1, S, l5, l6, l7, l8 =>
    if (6 : Int32) ≤ l8 then (
      (sR S t 2).bind fun b1 =>
      if ckX3 sh b1 = true then (
        (F_X3_add sh f S b1 p2 (l6 * l7) p4).bind fun y2 =>
        (sR y2 t 2).bind fun b3 =>
        if ckX3 sh b3 = true then (
          if (sI y2 b3 19) = 0 then (
            (sR y2 t 2).bind fun b4 =>
            if ckX3 sh b4 = true then (
              (F_X5_heaviesOf sh f y2 t p1 p2).bind fun y5 =>
              (F_X3_setHeavies sh f y2 b4 y5).bind fun y6 =>
              (F_X5_findCuts sh f y6 t p2 l5).bind fun y7 =>
              some y7
            ) else none
          ) else (
            some y2
          )
        ) else none
      ) else none
    ) else (
      (F_X4_keepsRules sh f S (t + 1) l8).bind fun y8 =>
      if y8 = 0 then (
        bnd (l8 + (1 : Int32)) fun x9 =>
        F_X5_keepIfLeast_L29 sh f t p1 p2 p4 n S l5 l6 l7 x9
      ) else (
        (F_X5_tally sh f S t p2 l8).bind fun y10 =>
        bnd y10.1 fun x11 =>
        (F_X5_leastTallied sh f y10.2 t).bind fun y12 =>
        bnd y12.1 fun x13 =>
        if 0 ≤ (lg_cmp x13 p2) then (
          if (lg_cmp x13 p2) = 0 then (
            bnd (l6 + (1 : Int32)) fun x16 =>
            bnd (l8 + (1 : Int32)) fun x17 =>
            F_X5_keepIfLeast_L29 sh f t p1 p2 p4 n y12.2 l5 x16 x11 x17
          ) else (
            bnd (l6 + (0 : Int32)) fun x14 =>
            bnd (l8 + (1 : Int32)) fun x15 =>
            F_X5_keepIfLeast_L29 sh f t p1 p2 p4 n y12.2 l5 x14 x11 x15
          )
        ) else (
          some y12.2
        )
      )
    )
def F_X5_keepIfLeast (sh : List Sh) (f : Nat) (S : St) (t : Nat) (p1 : Nat) (p2 : Int64) (p4 : Int32) : Option (St) :=
  (F_X5_linksOf sh f S t p2).bind fun y1 =>
  (F_X4_hangs sh f S (t + 1) y1).bind fun y2 =>
  if y2 = 0 then (
    some S
  ) else (
    F_X5_keepIfLeast_L29 sh f t p1 p2 p4 f S y1 (0 : Int32) (1 : Int32) (0 : Int32)
  )
def F_X5_draw_L51 (sh : List Sh) (f : Nat) (t : Nat) (p1 : Nat) (p2 : Int32) (p3 : Int32) (p4 : Int64) (p6 : Int32) (p7 : Int32) (kR : St → Nat → Nat → Int32 → Int32 → Int64 → Int32 → Int32 → Option (St)) : Nat → St → Int32 → Int32 → Int32 → Option (St)
  | 0, _, _, _, _ => none
  | n + 1, S, l8, l9, l10 =>
    if (sI S (t + 1) 9) ≤ l10 then (
      some S
    ) else (
      (F_X4_mayLead sh f S (t + 1) l8 l10 l9 p3).bind fun y1 =>
      if y1 = 0 then (
        bnd (l10 + (1 : Int32)) fun x2 =>
        F_X5_draw_L51 sh f t p1 p2 p3 p4 p6 p7 kR n S l8 l9 x2
      ) else (
        (F_X4_pointBit sh f S (t + 1) l8).bind fun y3 =>
        (F_X4_pointBit sh f S (t + 1) l10).bind fun y4 =>
        (F_X4_inRow sh f S l8 l10).bind fun y5 =>
        (F_X4_inRow sh f S l10 l8).bind fun y6 =>
        (F_X4_signOf sh f S (t + 1) l8 l10 l9).bind fun y7 =>
        (kR S t p1 (l9 &&& (((1 : Int32) <<< (l10 &&& 31)) ^^^ (-1 : Int32))) ((p3 ||| y3) ||| y4) ((p4 ||| y5) ||| y6) (p6 * y7) (p7 + (1 : Int32))).bind fun y8 =>
        bnd (l10 + (1 : Int32)) fun x9 =>
        F_X5_draw_L51 sh f t p1 p2 p3 p4 p6 p7 kR n y8 l8 l9 x9
      )
    )
def F_X5_draw (sh : List Sh) (f : Nat) : Nat → St → Nat → Nat → Int32 → Int32 → Int64 → Int32 → Int32 → Option (St)
  | 0, _, _, _, _, _, _, _, _ => none
  | e + 1, S, t, p1, p2, p3, p4, p6, p7 =>
    if p2 = 0 then (
      (F_X5_keepIfLeast sh f S t p1 p4 p6).bind fun y5 =>
      some y5
    ) else (
      if (6 : Int32) ≤ p7 then (
        some S
      ) else (
        (sR S t 2).bind fun b1 =>
        if ckX3 sh b1 = true then (
          if (sI S b1 19) = 0 then (
            (F_J6_numberOfTrailingZeros_0f7a4 sh f S p2).bind fun y2 =>
            bnd (p2 &&& (p2 - (1 : Int32))) fun x3 =>
            bnd (y2 + (1 : Int32)) fun x4 =>
            F_X5_draw_L51 sh f t p1 p2 p3 p4 p6 p7 (F_X5_draw sh f e) f S y2 x3 x4
          ) else (
            some S
          )
        ) else none
      )
    )
