def F_X3_clear (sh : List Sh) (f : Nat) (S : St) (t : Nat) (p1 : Int32) : Option (St) :=
  bnd (uI S t 16 p1) fun S1 =>
  bnd (uI S1 t 17 (0 : Int32)) fun S2 =>
  bnd (uI S2 t 18 (0 : Int32)) fun S3 =>
  bnd (uI S3 t 19 (0 : Int32)) fun S4 =>
  some S4
def F_X3_ruleIn (sh : List Sh) (f : Nat) (S : St) (p0 : Int32) (p1 : Int32) (p2 : Int32) : Option (Int32) :=
  some ((p0 >>> (((2 : Int32) * ((p1 - (1 : Int32)) - p2)) &&& 31)) &&& (3 : Int32))
def F_X3_openGroup_L80 (sh : List Sh) (f : Nat) (t : Nat) (p1 : Nat) (p2 : Nat) (p3 : Int32) : St → Int32 → Int32 → Option (Int32 × St) := fun S l4 l5 =>
  if (sI S t 18) < 0 ∨ 20 ≤ (sI S t 18).toNatClampNeg then none else
  bnd (uA S (t + 8) (sI S t 18).toNatClampNeg p3) fun S1 =>
  if (sI S1 t 18) < 0 ∨ 20 ≤ (sI S1 t 18).toNatClampNeg then none else
  bnd (uA S1 (t + 9) (sI S1 t 18).toNatClampNeg (sI S1 p2 9)) fun S2 =>
  if (sI S2 t 18) < 0 ∨ 20 ≤ (sI S2 t 18).toNatClampNeg then none else
  bnd (uA S2 (t + 10) (sI S2 t 18).toNatClampNeg (((sI S2 p2 9) / (2 : Int32)) - (sI S2 p2 8))) fun S3 =>
  if (sI S3 t 18) < 0 ∨ 20 ≤ (sI S3 t 18).toNatClampNeg then none else
  bnd (uA S3 (t + 11) (sI S3 t 18).toNatClampNeg (sI S3 p2 12)) fun S4 =>
  if (sI S4 t 18) < 0 ∨ 20 ≤ (sI S4 t 18).toNatClampNeg then none else
  bnd (uA S4 (t + 12) (sI S4 t 18).toNatClampNeg (1 : Int32)) fun S5 =>
  if (sI S5 t 18) < 0 ∨ 20 ≤ (sI S5 t 18).toNatClampNeg then none else
  bnd (uA S5 (t + 13) (sI S5 t 18).toNatClampNeg l4) fun S6 =>
  if (sI S6 t 18) < 0 ∨ 20 ≤ (sI S6 t 18).toNatClampNeg then none else
  bnd (uA S6 (t + 14) (sI S6 t 18).toNatClampNeg l5) fun S7 =>
  if (sI S7 t 18) < 0 ∨ 20 ≤ (sI S7 t 18).toNatClampNeg then none else
  bnd (uA S7 (t + 15) (sI S7 t 18).toNatClampNeg (0 : Int32)) fun S8 =>
  if (sI S8 t 18) < 0 ∨ 20 ≤ (sI S8 t 18).toNatClampNeg then none else
  bnd (uA S8 (t + 16) (sI S8 t 18).toNatClampNeg (vp_nar .boolean (0 : Int32))) fun S9 =>
  bnd (uI S9 t 18 ((sI S9 t 18) + (1 : Int32))) fun S10 =>
  some ((1 : Int32), S10)
def F_X3_openGroup_L20 (sh : List Sh) (f : Nat) (t : Nat) (p1 : Nat) (p2 : Nat) (p3 : Int32) : Nat → St → Int32 → Int32 → Int32 → Option (Int32 × St)
  | 0, _, _, _, _ => none
  | n + 1, S, l4, l5, l6 =>
    if (sI S t 16) ≤ l6 then (
      F_X3_openGroup_L80 sh f t p1 p2 p3 S l4 l5
    ) else (
      if (3 : Int32) ≤ l6 then (
        F_X3_openGroup_L80 sh f t p1 p2 p3 S l4 l5
      ) else (
        if l6 < 0 ∨ 3 ≤ l6.toNatClampNeg then none else
        bnd (sA S (p2 + 6) l6.toNatClampNeg) fun x1 =>
        if x1 < 0 ∨ 4 ≤ x1.toNatClampNeg then none else
        bnd (l4 * (sA S (p1 + 7) x1.toNatClampNeg)) fun x2 =>
        if x1 < 0 ∨ 4 ≤ x1.toNatClampNeg then none else
        bnd (l5 + ((1 : Int32) <<< (((2 : Int32) * ((2 : Int32) - (sA S (p1 + 8) x1.toNatClampNeg))) &&& 31))) fun x3 =>
        bnd (l6 + (1 : Int32)) fun x4 =>
        F_X3_openGroup_L20 sh f t p1 p2 p3 n S x2 x3 x4
      )
    )
def F_X3_openGroup (sh : List Sh) (f : Nat) (S : St) (t : Nat) (p1 : Nat) (p2 : Nat) (p3 : Int32) : Option (Int32 × St) :=
  if (sI S t 18) < (20 : Int32) then (
    F_X3_openGroup_L20 sh f t p1 p2 p3 f S (1 : Int32) (0 : Int32) (0 : Int32)
  ) else (
    some ((0 : Int32), S)
  )
def F_X3_add (sh : List Sh) (f : Nat) (S : St) (t : Nat) (p1 : Int64) (p3 : Int32) (p4 : Int32) : Option (St) :=
  if (200 : Int32) ≤ (sI S t 17) then (
    bnd (uI S t 19 (1 : Int32)) fun S1 =>
    some S1
  ) else (
    if (sI S t 18) = 0 then (
      bnd (uI S t 19 (1 : Int32)) fun S8 =>
      some S8
    ) else (
      if (sI S t 17) < 0 ∨ 200 ≤ (sI S t 17).toNatClampNeg then none else
      bnd (uL S (t + 1) (sI S t 17).toNatClampNeg p1) fun S2 =>
      if (sI S2 t 17) < 0 ∨ 200 ≤ (sI S2 t 17).toNatClampNeg then none else
      bnd (uA S2 (t + 2) (sI S2 t 17).toNatClampNeg p3) fun S3 =>
      if (sI S3 t 17) < 0 ∨ 200 ≤ (sI S3 t 17).toNatClampNeg then none else
      bnd (uA S3 (t + 3) (sI S3 t 17).toNatClampNeg p4) fun S4 =>
      if (sI S4 t 17) < 0 ∨ 200 ≤ (sI S4 t 17).toNatClampNeg then none else
      bnd (uA S4 (t + 4) (sI S4 t 17).toNatClampNeg ((sI S4 t 18) - (1 : Int32))) fun S5 =>
      if (sI S5 t 17) < 0 ∨ 200 ≤ (sI S5 t 17).toNatClampNeg then none else
      bnd (uA S5 (t + 5) (sI S5 t 17).toNatClampNeg (0 : Int32)) fun S6 =>
      bnd (uI S6 t 17 ((sI S6 t 17) + (1 : Int32))) fun S7 =>
      some S7
    )
  )
def F_X3_setHeavies (sh : List Sh) (f : Nat) (S : St) (t : Nat) (p1 : Int32) : Option (St) :=
  if (sI S t 18) ≤ 0 then (
    some S
  ) else (
    if ((sI S t 18) - (1 : Int32)) < 0 ∨ 20 ≤ ((sI S t 18) - (1 : Int32)).toNatClampNeg then none else
    bnd (uA S (t + 12) ((sI S t 18) - (1 : Int32)).toNatClampNeg p1) fun S1 =>
    some S1
  )
def F_X3_addCut (sh : List Sh) (f : Nat) (S : St) (t : Nat) (p1 : Int32) (p2 : Int32) : Option (St) :=
  if (sI S t 17) ≤ 0 then (
    some S
  ) else (
    if ((sI S t 17) - (1 : Int32)) < 0 ∨ 200 ≤ ((sI S t 17) - (1 : Int32)).toNatClampNeg then none else
    if (2 : Int32) ≤ (sA S (t + 5) ((sI S t 17) - (1 : Int32)).toNatClampNeg) then (
      some S
    ) else (
      if ((sI S t 17) - (1 : Int32)) < 0 ∨ 200 ≤ ((sI S t 17) - (1 : Int32)).toNatClampNeg then none else
      bnd ((((sI S t 17) - (1 : Int32)) * (2 : Int32)) + (sA S (t + 5) ((sI S t 17) - (1 : Int32)).toNatClampNeg)) fun x1 =>
      if x1 < 0 ∨ 400 ≤ x1.toNatClampNeg then none else
      bnd (uA S (t + 6) x1.toNatClampNeg p1) fun S2 =>
      if x1 < 0 ∨ 400 ≤ x1.toNatClampNeg then none else
      bnd (uA S2 (t + 7) x1.toNatClampNeg p2) fun S3 =>
      if ((sI S3 t 17) - (1 : Int32)) < 0 ∨ 200 ≤ ((sI S3 t 17) - (1 : Int32)).toNatClampNeg then none else
      if ((sI S3 t 17) - (1 : Int32)) < 0 ∨ 200 ≤ ((sI S3 t 17) - (1 : Int32)).toNatClampNeg then none else
      bnd (uA S3 (t + 5) ((sI S3 t 17) - (1 : Int32)).toNatClampNeg ((sA S3 (t + 5) ((sI S3 t 17) - (1 : Int32)).toNatClampNeg) + (1 : Int32))) fun S4 =>
      some S4
    )
  )
def F_X3_groupOf (sh : List Sh) (f : Nat) (S : St) (t : Nat) (p1 : Int32) : Option (Int32) :=
  if p1 < 0 ∨ 200 ≤ p1.toNatClampNeg then none else
  some (sA S (t + 4) p1.toNatClampNeg)
def F_X3_codeOf (sh : List Sh) (f : Nat) (S : St) (t : Nat) (p1 : Int32) : Option (Int32) :=
  if p1 < 0 ∨ 200 ≤ p1.toNatClampNeg then none else
  if (sA S (t + 4) p1.toNatClampNeg) < 0 ∨ 20 ≤ (sA S (t + 4) p1.toNatClampNeg).toNatClampNeg then none else
  some (sA S (t + 8) (sA S (t + 4) p1.toNatClampNeg).toNatClampNeg)
def F_X3_legsOf (sh : List Sh) (f : Nat) (S : St) (t : Nat) (p1 : Int32) : Option (Int32) :=
  if p1 < 0 ∨ 200 ≤ p1.toNatClampNeg then none else
  if (sA S (t + 4) p1.toNatClampNeg) < 0 ∨ 20 ≤ (sA S (t + 4) p1.toNatClampNeg).toNatClampNeg then none else
  some (sA S (t + 9) (sA S (t + 4) p1.toNatClampNeg).toNatClampNeg)
def F_X3_ways (sh : List Sh) (f : Nat) (S : St) (t : Nat) (p1 : Int32) : Option (Int32) :=
  if p1 < 0 ∨ 200 ≤ p1.toNatClampNeg then none else
  if (sA S (t + 2) p1.toNatClampNeg) ≤ 0 then (
    some (0 : Int32)
  ) else (
    if p1 < 0 ∨ 200 ≤ p1.toNatClampNeg then none else
    if (sA S (t + 4) p1.toNatClampNeg) < 0 ∨ 20 ≤ (sA S (t + 4) p1.toNatClampNeg).toNatClampNeg then none else
    if p1 < 0 ∨ 200 ≤ p1.toNatClampNeg then none else
    if (sA S (t + 2) p1.toNatClampNeg) = 0 then none else
    some ((sA S (t + 11) (sA S (t + 4) p1.toNatClampNeg).toNatClampNeg) / (sA S (t + 2) p1.toNatClampNeg))
  )
def F_X3_loops (sh : List Sh) (f : Nat) (S : St) (t : Nat) (p1 : Int32) : Option (Int32) :=
  if p1 < 0 ∨ 200 ≤ p1.toNatClampNeg then none else
  if (sA S (t + 4) p1.toNatClampNeg) < 0 ∨ 20 ≤ (sA S (t + 4) p1.toNatClampNeg).toNatClampNeg then none else
  some (((sA S (t + 10) (sA S (t + 4) p1.toNatClampNeg).toNatClampNeg) - (sI S t 16)) + (1 : Int32))
def F_X3_ofDrawing (sh : List Sh) (f : Nat) (S : St) (t : Nat) (p1 : Int32) (p2 : Int32) : Option (Int32) :=
  if p2 = (0 : Int32) then (
    some (1 : Int32)
  ) else (
  if p2 = (1 : Int32) then (
    if p1 < 0 ∨ 200 ≤ p1.toNatClampNeg then none else
    some (sA S (t + 2) p1.toNatClampNeg)
  ) else (
  if p2 = (2 : Int32) then (
    if p1 < 0 ∨ 200 ≤ p1.toNatClampNeg then none else
    some (sA S (t + 3) p1.toNatClampNeg)
  ) else (
  if p2 = (3 : Int32) then (
    (F_X3_loops sh f S t p1).bind fun y1 =>
    some y1
  ) else (
  if p2 = (4 : Int32) then (
    if p1 < 0 ∨ 200 ≤ p1.toNatClampNeg then none else
    some (sA S (t + 5) p1.toNatClampNeg)
  ) else (
  if p2 = (5 : Int32) then (
    (F_X3_ways sh f S t p1).bind fun y2 =>
    some y2
  ) else (
  if p2 = (6 : Int32) then (
    if p1 < 0 ∨ 200 ≤ p1.toNatClampNeg then none else
    if (sA S (t + 4) p1.toNatClampNeg) < 0 ∨ 20 ≤ (sA S (t + 4) p1.toNatClampNeg).toNatClampNeg then none else
    some (sA S (t + 10) (sA S (t + 4) p1.toNatClampNeg).toNatClampNeg)
  ) else (
    some (-2147483648 : Int32)
  )
  )
  )
  )
  )
  )
  )
def F_X3_ruleOf (sh : List Sh) (f : Nat) (S : St) (t : Nat) (p1 : Int32) (p2 : Int32) : Option (Int32) :=
  if p2 < 0 then (
    some (-1 : Int32)
  ) else (
    if (sI S t 16) ≤ p2 then (
      some (-1 : Int32)
    ) else (
      (F_X3_codeOf sh f S t p1).bind fun y1 =>
      (F_X3_ruleIn sh f S y1 (sI S t 16) p2).bind fun y2 =>
      some y2
    )
  )
def F_X4_partnerIn (sh : List Sh) (f : Nat) (S : St) (p0 : Int64) (p2 : Int32) : Option (Int32) :=
  some (((p0 >>> (((4 : Int32) * ((11 : Int32) - p2)).toInt64 &&& 63)).toInt32) &&& (15 : Int32))
def F_X3_partnerOf (sh : List Sh) (f : Nat) (S : St) (t : Nat) (p1 : Int32) (p2 : Int32) : Option (Int32) :=
  if p2 < 0 then (
    some (-1 : Int32)
  ) else (
    (F_X3_legsOf sh f S t p1).bind fun y1 =>
    if y1 ≤ p2 then (
      some (-1 : Int32)
    ) else (
      if p1 < 0 ∨ 200 ≤ p1.toNatClampNeg then none else
      (F_X4_partnerIn sh f S (sL S (t + 1) p1.toNatClampNeg) p2).bind fun y2 =>
      some y2
    )
  )
def F_X3_hasCut (sh : List Sh) (f : Nat) (S : St) (t : Nat) (p1 : Int32) (p2 : Int32) : Option (Int32) :=
  if p2 < 0 then (
    some (0 : Int32)
  ) else (
    if p1 < 0 ∨ 200 ≤ p1.toNatClampNeg then none else
    if (sA S (t + 5) p1.toNatClampNeg) ≤ p2 then (
      some (0 : Int32)
    ) else (
      some (1 : Int32)
    )
  )
def F_X3_sideOf (sh : List Sh) (f : Nat) (S : St) (t : Nat) (p1 : Int32) (p2 : Int32) : Option (Int32) :=
  if ((p1 * (2 : Int32)) + p2) < 0 ∨ 400 ≤ ((p1 * (2 : Int32)) + p2).toNatClampNeg then none else
  some (sA S (t + 6) ((p1 * (2 : Int32)) + p2).toNatClampNeg)
def F_X3_sideKindOf (sh : List Sh) (f : Nat) (S : St) (t : Nat) (p1 : Int32) (p2 : Int32) : Option (Int32) :=
  if ((p1 * (2 : Int32)) + p2) < 0 ∨ 400 ≤ ((p1 * (2 : Int32)) + p2).toNatClampNeg then none else
  some (sA S (t + 7) ((p1 * (2 : Int32)) + p2).toNatClampNeg)
def F_X3_allWays_L4 (sh : List Sh) (f : Nat) (S : St) (t : Nat) : Nat → Int32 → Int32 → Option (Int32)
  | 0, _, _ => none
  | n + 1, l1, l2 =>
    if (sI S t 17) ≤ l2 then (
      some l1
    ) else (
      (F_X3_ways sh f S t l2).bind fun y1 =>
      bnd (l1 + y1) fun x2 =>
      bnd (l2 + (1 : Int32)) fun x3 =>
      F_X3_allWays_L4 sh f S t n x2 x3
    )
def F_X3_allWays (sh : List Sh) (f : Nat) (S : St) (t : Nat) : Option (Int32) :=
  F_X3_allWays_L4 sh f S t f (0 : Int32) (0 : Int32)
def F_X3_withoutLoops_L4 (sh : List Sh) (f : Nat) (S : St) (t : Nat) : Nat → Int32 → Int32 → Option (Int32)
  | 0, _, _ => none
  | n + 1, l1, l2 =>
    if (sI S t 17) ≤ l2 then (
      some l1
    ) else (
      (F_X3_loops sh f S t l2).bind fun y1 =>
      if y1 = 0 then (
        bnd (l1 + (1 : Int32)) fun x4 =>
        bnd (l2 + (1 : Int32)) fun x5 =>
        F_X3_withoutLoops_L4 sh f S t n x4 x5
      ) else (
        bnd (l1 + (0 : Int32)) fun x2 =>
        bnd (l2 + (1 : Int32)) fun x3 =>
        F_X3_withoutLoops_L4 sh f S t n x2 x3
      )
    )
def F_X3_withoutLoops (sh : List Sh) (f : Nat) (S : St) (t : Nat) : Option (Int32) :=
  F_X3_withoutLoops_L4 sh f S t f (0 : Int32) (0 : Int32)
def F_X3_withoutCuts_L4 (sh : List Sh) (f : Nat) (S : St) (t : Nat) : Nat → Int32 → Int32 → Option (Int32)
  | 0, _, _ => none
  | n + 1, l1, l2 =>
    if (sI S t 17) ≤ l2 then (
      some l1
    ) else (
      if l2 < 0 ∨ 200 ≤ l2.toNatClampNeg then none else
      if (sA S (t + 5) l2.toNatClampNeg) = 0 then (
        bnd (l1 + (1 : Int32)) fun x3 =>
        bnd (l2 + (1 : Int32)) fun x4 =>
        F_X3_withoutCuts_L4 sh f S t n x3 x4
      ) else (
        bnd (l1 + (0 : Int32)) fun x1 =>
        bnd (l2 + (1 : Int32)) fun x2 =>
        F_X3_withoutCuts_L4 sh f S t n x1 x2
      )
    )
def F_X3_withoutCuts (sh : List Sh) (f : Nat) (S : St) (t : Nat) : Option (Int32) :=
  F_X3_withoutCuts_L4 sh f S t f (0 : Int32) (0 : Int32)
def F_X3_find_L3 (sh : List Sh) (f : Nat) (S : St) (t : Nat) (p1 : Int32) (p2 : Int64) : Nat → Int32 → Option (Int32)
  | 0, _ => none
  | n + 1, l4 =>
    if (sI S t 17) ≤ l4 then (
      some (-2 : Int32)
    ) else (
      if l4 < 0 ∨ 200 ≤ l4.toNatClampNeg then none else
      if (sA S (t + 4) l4.toNatClampNeg) = p1 then (
        if l4 < 0 ∨ 200 ≤ l4.toNatClampNeg then none else
        if (lg_cmp (sL S (t + 1) l4.toNatClampNeg) p2) = 0 then (
          some l4
        ) else (
          bnd (l4 + (1 : Int32)) fun x2 =>
          F_X3_find_L3 sh f S t p1 p2 n x2
        )
      ) else (
        bnd (l4 + (1 : Int32)) fun x1 =>
        F_X3_find_L3 sh f S t p1 p2 n x1
      )
    )
def F_X3_find (sh : List Sh) (f : Nat) (S : St) (t : Nat) (p1 : Int32) (p2 : Int64) : Option (Int32) :=
  F_X3_find_L3 sh f S t p1 p2 f (0 : Int32)
def F_X3_signedWays_L5 (sh : List Sh) (f : Nat) (S : St) (t : Nat) (p1 : Int32) : Nat → Int64 → Int32 → Option (Int64)
  | 0, _, _ => none
  | n + 1, l2, l4 =>
    if (sI S t 17) ≤ l4 then (
      some l2
    ) else (
      if l4 < 0 ∨ 200 ≤ l4.toNatClampNeg then none else
      if (sA S (t + 4) l4.toNatClampNeg) = p1 then (
        if l4 < 0 ∨ 200 ≤ l4.toNatClampNeg then none else
        (F_X3_ways sh f S t l4).bind fun y2 =>
        bnd (l2 + (((sA S (t + 3) l4.toNatClampNeg).toInt64) * y2.toInt64)) fun x3 =>
        bnd (l4 + (1 : Int32)) fun x4 =>
        F_X3_signedWays_L5 sh f S t p1 n x3 x4
      ) else (
        bnd (l4 + (1 : Int32)) fun x1 =>
        F_X3_signedWays_L5 sh f S t p1 n l2 x1
      )
    )
def F_X3_signedWays (sh : List Sh) (f : Nat) (S : St) (t : Nat) (p1 : Int32) : Option (Int64) :=
  F_X3_signedWays_L5 sh f S t p1 f (0 : Int64) (0 : Int32)
def F_X3_divisor (sh : List Sh) (f : Nat) (S : St) (t : Nat) (p1 : Int32) : Option (Int64) :=
  if p1 < 0 ∨ 20 ≤ p1.toNatClampNeg then none else
  if p1 < 0 ∨ 20 ≤ p1.toNatClampNeg then none else
  some (((sA S (t + 11) p1.toNatClampNeg).toInt64) * ((sA S (t + 12) p1.toNatClampNeg).toInt64))
def F_X4_layPoint_L83 (sh : List Sh) (f : Nat) (t : Nat) (p1 : Nat) (p2 : Int32) (k25 : St → Int32 → Int32 → Option (St)) : Nat → St → Int32 → Int32 → Int32 → Option (St)
  | 0, _, _, _, _ => none
  | n + 1, S, l3, l4, l5 =>
    if (sI S t 9) ≤ l5 then (
      if (sI S t 9) < 0 ∨ 12 ≤ (sI S t 9).toNatClampNeg then none else
      bnd (uA S (t + 3) (sI S t 9).toNatClampNeg l5) fun S1 =>
      bnd (uI S1 t 9 ((sI S1 t 9) + (1 : Int32))) fun S2 =>
      bnd (l4 + (1 : Int32)) fun x3 =>
      k25 S2 l3 x3
    ) else (
      if l5 < 0 ∨ 12 ≤ l5.toNatClampNeg then none else
      if (sI S t 9) < 0 ∨ 12 ≤ (sI S t 9).toNatClampNeg then none else
      if (sA S (t + 1) l5.toNatClampNeg) = (sA S (t + 1) (sI S t 9).toNatClampNeg) then (
        if (sI S t 9) < 0 ∨ 12 ≤ (sI S t 9).toNatClampNeg then none else
        bnd (uA S (t + 3) (sI S t 9).toNatClampNeg l5) fun S4 =>
        bnd (uI S4 t 9 ((sI S4 t 9) + (1 : Int32))) fun S5 =>
        bnd (l4 + (1 : Int32)) fun x6 =>
        k25 S5 l3 x6
      ) else (
        bnd (l5 + (1 : Int32)) fun x7 =>
        F_X4_layPoint_L83 sh f t p1 p2 k25 n S l3 l4 x7
      )
    )
def F_X4_layPoint_L25 (sh : List Sh) (f : Nat) (t : Nat) (p1 : Nat) (p2 : Int32) : Nat → St → Int32 → Int32 → Option (St)
  | 0, _, _, _ => none
  | n + 1, S, l3, l4 =>
    if l3 ≤ l4 then (
      some S
    ) else (
      if (12 : Int32) ≤ (sI S t 9) then (
        some S
      ) else (
        if p2 < 0 ∨ 3 ≤ p2.toNatClampNeg then none else
        if (((sA S (t + 6) p2.toNatClampNeg) * (4 : Int32)) + l4) < 0 ∨ 16 ≤ (((sA S (t + 6) p2.toNatClampNeg) * (4 : Int32)) + l4).toNatClampNeg then none else
        if (sI S t 9) < 0 ∨ 12 ≤ (sI S t 9).toNatClampNeg then none else
        bnd (uA S (t + 1) (sI S t 9).toNatClampNeg (sA S (p1 + 9) (((sA S (t + 6) p2.toNatClampNeg) * (4 : Int32)) + l4).toNatClampNeg)) fun S1 =>
        if (sI S1 t 9) < 0 ∨ 12 ≤ (sI S1 t 9).toNatClampNeg then none else
        bnd (uA S1 (t + 2) (sI S1 t 9).toNatClampNeg p2) fun S2 =>
        if p2 < 0 ∨ 3 ≤ p2.toNatClampNeg then none else
        bnd (sA S2 (t + 7) p2.toNatClampNeg) fun x3 =>
        F_X4_layPoint_L83 sh f t p1 p2 (F_X4_layPoint_L25 sh f t p1 p2 n) f S2 l3 l4 x3
      )
    )
def F_X4_layPoint (sh : List Sh) (f : Nat) (S : St) (t : Nat) (p1 : Nat) (p2 : Int32) : Option (St) :=
  if p2 < 0 ∨ 3 ≤ p2.toNatClampNeg then none else
  bnd (uA S (t + 7) p2.toNatClampNeg (sI S t 9)) fun S1 =>
  if p2 < 0 ∨ 3 ≤ p2.toNatClampNeg then none else
  if (sA S1 (t + 6) p2.toNatClampNeg) < 0 ∨ 4 ≤ (sA S1 (t + 6) p2.toNatClampNeg).toNatClampNeg then none else
  bnd (sA S1 (p1 + 6) (sA S1 (t + 6) p2.toNatClampNeg).toNatClampNeg) fun x2 =>
  F_X4_layPoint_L25 sh f t p1 p2 f S1 x2 (0 : Int32)
