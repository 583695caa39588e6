def F_X12_pairs_L2 (sh : List Sh) (f : Nat) (t : Nat) : Nat → St → Int32 → Option (St)
  | 0, _, _ => none
  | n + 1, S, l1 =>
    if (12 : Int32) ≤ l1 then (
      bnd (uI S t 35 (0 : Int32)) fun S1 =>
      (F_X12_pairsFrom sh f 10 S1 t (0 : Int32)).bind fun y2 =>
      some y2
    ) else (
      if l1 < 0 ∨ 12 ≤ l1.toNatClampNeg then none else
      bnd (uA S (t + 40) l1.toNatClampNeg (-1 : Int32)) fun S3 =>
      bnd (l1 + (1 : Int32)) fun x4 =>
      F_X12_pairs_L2 sh f t n S3 x4
    )
def F_X12_pairs (sh : List Sh) (f : Nat) (S : St) (t : Nat) : Option (St) :=
  F_X12_pairs_L2 sh f t f S (0 : Int32)
def F_X12_rowAt_L10 (sh : List Sh) (f : Nat) (S : St) (t : Nat) (p1 : Int64) : Nat → Int32 → Int32 → Option (Int32)
  | 0, _, _ => none
  | n + 1, l3, l4 =>
    if l4 < l3 then (
      some (-1 : Int32)
    ) else (
      bnd ((l3 + l4) / (2 : Int32)) fun x1 =>
      if x1 < 0 ∨ 10395 ≤ x1.toNatClampNeg then none else
      if (lg_cmp (sL S (t + 43) x1.toNatClampNeg) p1) = 0 then (
        some x1
      ) else (
        if x1 < 0 ∨ 10395 ≤ x1.toNatClampNeg then none else
        if 0 ≤ (lg_cmp (sL S (t + 43) x1.toNatClampNeg) p1) then (
          bnd (x1 - (1 : Int32)) fun x2 =>
          F_X12_rowAt_L10 sh f S t p1 n l3 x2
        ) else (
          bnd (x1 + (1 : Int32)) fun x3 =>
          F_X12_rowAt_L10 sh f S t p1 n x3 l4
        )
      )
    )
def F_X12_rowAt (sh : List Sh) (f : Nat) (S : St) (t : Nat) (p1 : Int64) : Option (Int32) :=
  bnd ((sI S t 35) - (1 : Int32)) fun x1 =>
  F_X12_rowAt_L10 sh f S t p1 f (0 : Int32) x1
def F_X12_swappedRow_L50 (sh : List Sh) (f : Nat) (t : Nat) (p1 : Int32) : Nat → St → Int32 → Option (Int32 × St)
  | 0, _, _ => none
  | n + 1, S, l2 =>
    if (sI S t 25) ≤ l2 then (
      (F_X12_rowHere sh f S t).bind fun y1 =>
      (F_X12_rowAt sh f S t y1).bind fun y2 =>
      some (y2, S)
    ) else (
      if l2 < 0 ∨ 12 ≤ l2.toNatClampNeg then none else
      if l2 < 0 ∨ 12 ≤ l2.toNatClampNeg then none else
      bnd (uA S (t + 40) l2.toNatClampNeg (sA S (t + 47) l2.toNatClampNeg)) fun S3 =>
      bnd (l2 + (1 : Int32)) fun x4 =>
      F_X12_swappedRow_L50 sh f t p1 n S3 x4
    )
def F_X12_swappedRow_L12 (sh : List Sh) (f : Nat) (t : Nat) (p1 : Int32) : Nat → St → Int32 → Option (Int32 × St)
  | 0, _, _ => none
  | n + 1, S, l2 =>
    if (sI S t 25) ≤ l2 then (
      F_X12_swappedRow_L50 sh f t p1 f S (0 : Int32)
    ) else (
      if l2 < 0 ∨ 12 ≤ l2.toNatClampNeg then none else
      if l2 < 0 ∨ 12 ≤ l2.toNatClampNeg then none else
      if (sA S (t + 40) l2.toNatClampNeg) < 0 ∨ 12 ≤ (sA S (t + 40) l2.toNatClampNeg).toNatClampNeg then none else
      if (sA S (t + 46) l2.toNatClampNeg) < 0 ∨ 12 ≤ (sA S (t + 46) l2.toNatClampNeg).toNatClampNeg then none else
      bnd (uA S (t + 47) (sA S (t + 46) l2.toNatClampNeg).toNatClampNeg (sA S (t + 46) (sA S (t + 40) l2.toNatClampNeg).toNatClampNeg)) fun S1 =>
      bnd (l2 + (1 : Int32)) fun x2 =>
      F_X12_swappedRow_L12 sh f t p1 n S1 x2
    )
def F_X12_swappedRow (sh : List Sh) (f : Nat) (S : St) (t : Nat) (p1 : Int32) : Option (Int32 × St) :=
  if p1 < 0 ∨ 10395 ≤ p1.toNatClampNeg then none else
  (F_X12_takes sh f S t (sL S (t + 43) p1.toNatClampNeg)).bind fun y1 =>
  F_X12_swappedRow_L12 sh f t p1 f y1 (0 : Int32)
def F_X12_plainSwap_L2 (sh : List Sh) (f : Nat) (t : Nat) : Nat → St → Int32 → Option (St)
  | 0, _, _ => none
  | n + 1, S, l1 =>
    if (sI S t 25) ≤ l1 then (
      some S
    ) else (
      if l1 < 0 ∨ 12 ≤ l1.toNatClampNeg then none else
      bnd (uA S (t + 46) l1.toNatClampNeg l1) fun S1 =>
      bnd (l1 + (1 : Int32)) fun x2 =>
      F_X12_plainSwap_L2 sh f t n S1 x2
    )
def F_X12_plainSwap (sh : List Sh) (f : Nat) (S : St) (t : Nat) : Option (St) :=
  F_X12_plainSwap_L2 sh f t f S (0 : Int32)
def F_X12_reaches (sh : List Sh) (f : Nat) (S : St) (t : Nat) (p1 : Int32) (p2 : Int32) : Option (St) :=
  (F_X12_swappedRow sh f S t p1).bind fun y1 =>
  bnd y1.1 fun x2 =>
  if x2 < 0 ∨ 10395 ≤ x2.toNatClampNeg then none else
  if (sA y1.2 (t + 44) x2.toNatClampNeg) = (-1 : Int32) then (
    if x2 < 0 ∨ 10395 ≤ x2.toNatClampNeg then none else
    bnd (uA y1.2 (t + 44) x2.toNatClampNeg p2) fun S3 =>
    if (sI S3 t 38) < 0 ∨ 10395 ≤ (sI S3 t 38).toNatClampNeg then none else
    bnd (uA S3 (t + 45) (sI S3 t 38).toNatClampNeg x2) fun S4 =>
    bnd (uI S4 t 38 ((sI S4 t 38) + (1 : Int32))) fun S5 =>
    some S5
  ) else (
    some y1.2
  )
def F_X12_spreads_L82 (sh : List Sh) (f : Nat) (t : Nat) (p1 : Nat) (p2 n2 : Nat) (p3 : Int32) (p4 : Int32) (p5 : Int32) (k67 : St → Int32 → Int32 → Int32 → Option (Int32 × St)) : Nat → St → Int32 → Int32 → Int32 → Int32 → Option (Int32 × St)
  | 0, _, _, _, _, _ => none
  | n + 1, S, l6, l7, l8, l9 =>
    if (sI S t 25) ≤ l9 then (
      bnd (l8 + (1 : Int32)) fun x1 =>
      k67 S l6 l7 x1
    ) else (
      if l8 < 0 ∨ 12 ≤ l8.toNatClampNeg then none else
      if l9 < 0 ∨ 12 ≤ l9.toNatClampNeg then none else
      if (sA S (t + 39) l8.toNatClampNeg) = (sA S (t + 39) l9.toNatClampNeg) then (
        if l8 < 0 ∨ 12 ≤ l8.toNatClampNeg then none else
        if l9 < 0 ∨ 12 ≤ l9.toNatClampNeg then none else
        if (sA S (t + 38) l8.toNatClampNeg) = (sA S (t + 38) l9.toNatClampNeg) then (
          (F_X12_plainSwap sh f S t).bind fun y3 =>
          if l8 < 0 ∨ 12 ≤ l8.toNatClampNeg then none else
          bnd (uA y3 (t + 46) l8.toNatClampNeg l9) fun S4 =>
          if l9 < 0 ∨ 12 ≤ l9.toNatClampNeg then none else
          bnd (uA S4 (t + 46) l9.toNatClampNeg l8) fun S5 =>
          (F_X12_reaches sh f S5 t l7 p5).bind fun y6 =>
          bnd (l9 + (1 : Int32)) fun x7 =>
          F_X12_spreads_L82 sh f t p1 p2 n2 p3 p4 p5 k67 n y6 l6 l7 l8 x7
        ) else (
          bnd (l9 + (1 : Int32)) fun x8 =>
          F_X12_spreads_L82 sh f t p1 p2 n2 p3 p4 p5 k67 n S l6 l7 l8 x8
        )
      ) else (
        bnd (l9 + (1 : Int32)) fun x2 =>
        F_X12_spreads_L82 sh f t p1 p2 n2 p3 p4 p5 k67 n S l6 l7 l8 x2
      )
    )
def F_X12_spreads_L211 (sh : List Sh) (f : Nat) (t : Nat) (p1 : Nat) (p2 n2 : Nat) (p3 : Int32) (p4 : Int32) (p5 : Int32) (k173 : St → Int32 → Int32 → Int32 → Option (Int32 × St)) : Nat → St → Int32 → Int32 → Int32 → Int32 → Option (Int32 × St)
  | 0, _, _, _, _, _ => none
  | n + 1, S, l6, l7, l8, l9 =>
    (sR S t 5).bind fun b1 =>
    if ckX9 sh b1 = true then (
      if (p3 + l8) < 0 ∨ n2 ≤ (p3 + l8).toNatClampNeg then none else
      if (sA S p2 (p3 + l8).toNatClampNeg) < 0 ∨ 4 ≤ (sA S p2 (p3 + l8).toNatClampNeg).toNatClampNeg then none else
      if (sA S (b1 + 6) (sA S p2 (p3 + l8).toNatClampNeg).toNatClampNeg) ≤ l9 then (
        (F_X12_reaches sh f S t l7 p5).bind fun y2 =>
        bnd (l8 + (1 : Int32)) fun x3 =>
        k173 y2 l6 l7 x3
      ) else (
        if l8 < 0 ∨ 3 ≤ l8.toNatClampNeg then none else
        if (l8 + (1 : Int32)) < 0 ∨ 3 ≤ (l8 + (1 : Int32)).toNatClampNeg then none else
        if ((sA S (t + 41) l8.toNatClampNeg) + l9) < 0 ∨ 12 ≤ ((sA S (t + 41) l8.toNatClampNeg) + l9).toNatClampNeg then none else
        bnd (uA S (t + 46) ((sA S (t + 41) l8.toNatClampNeg) + l9).toNatClampNeg ((sA S (t + 41) (l8 + (1 : Int32)).toNatClampNeg) + l9)) fun S4 =>
        if (l8 + (1 : Int32)) < 0 ∨ 3 ≤ (l8 + (1 : Int32)).toNatClampNeg then none else
        if l8 < 0 ∨ 3 ≤ l8.toNatClampNeg then none else
        if ((sA S4 (t + 41) (l8 + (1 : Int32)).toNatClampNeg) + l9) < 0 ∨ 12 ≤ ((sA S4 (t + 41) (l8 + (1 : Int32)).toNatClampNeg) + l9).toNatClampNeg then none else
        bnd (uA S4 (t + 46) ((sA S4 (t + 41) (l8 + (1 : Int32)).toNatClampNeg) + l9).toNatClampNeg ((sA S4 (t + 41) l8.toNatClampNeg) + l9)) fun S5 =>
        bnd (l9 + (1 : Int32)) fun x6 =>
        F_X12_spreads_L211 sh f t p1 p2 n2 p3 p4 p5 k173 n S5 l6 l7 l8 x6
      )
    ) else none
def F_X12_spreads_L173 (sh : List Sh) (f : Nat) (t : Nat) (p1 : Nat) (p2 n2 : Nat) (p3 : Int32) (p4 : Int32) (p5 : Int32) (k30 : St → Int32 → Option (Int32 × St)) : Nat → St → Int32 → Int32 → Int32 → Option (Int32 × St)
  | 0, _, _, _, _ => none
  | n + 1, S, l6, l7, l8 =>
    if (sI S p1 1) ≤ (l8 + (1 : Int32)) then (
      k30 S l6
    ) else (
      if (p3 + l8) < 0 ∨ n2 ≤ (p3 + l8).toNatClampNeg then none else
      if ((p3 + l8) + (1 : Int32)) < 0 ∨ n2 ≤ ((p3 + l8) + (1 : Int32)).toNatClampNeg then none else
      if (sA S p2 (p3 + l8).toNatClampNeg) = (sA S p2 ((p3 + l8) + (1 : Int32)).toNatClampNeg) then (
        (F_X12_plainSwap sh f S t).bind fun y1 =>
        F_X12_spreads_L211 sh f t p1 p2 n2 p3 p4 p5 (F_X12_spreads_L173 sh f t p1 p2 n2 p3 p4 p5 k30 n) f y1 l6 l7 l8 (0 : Int32)
      ) else (
        bnd (l8 + (1 : Int32)) fun x2 =>
        F_X12_spreads_L173 sh f t p1 p2 n2 p3 p4 p5 k30 n S l6 l7 x2
      )
    )
def F_X12_spreads_L67 (sh : List Sh) (f : Nat) (t : Nat) (p1 : Nat) (p2 n2 : Nat) (p3 : Int32) (p4 : Int32) (p5 : Int32) (k30 : St → Int32 → Option (Int32 × St)) : Nat → St → Int32 → Int32 → Int32 → Option (Int32 × St)
  | 0, _, _, _, _ => none
  | n + 1, S, l6, l7, l8 =>
    if (sI S t 25) ≤ l8 then (
      F_X12_spreads_L173 sh f t p1 p2 n2 p3 p4 p5 k30 f S l6 l7 (0 : Int32)
    ) else (
      bnd (l8 + (1 : Int32)) fun x1 =>
      F_X12_spreads_L82 sh f t p1 p2 n2 p3 p4 p5 (F_X12_spreads_L67 sh f t p1 p2 n2 p3 p4 p5 k30 n) f S l6 l7 l8 x1
    )
def F_X12_spreads_L30 (sh : List Sh) (f : Nat) (t : Nat) (p1 : Nat) (p2 n2 : Nat) (p3 : Int32) (p4 : Int32) (p5 : Int32) : Nat → St → Int32 → Option (Int32 × St)
  | 0, _, _ => none
  | n + 1, S, l6 =>
    if (sI S t 38) ≤ 0 then (
      some (l6, S)
    ) else (
      bnd (uI S t 38 ((sI S t 38) - (1 : Int32))) fun S1 =>
      if (sI S1 t 38) < 0 ∨ 10395 ≤ (sI S1 t 38).toNatClampNeg then none else
      bnd (sA S1 (t + 45) (sI S1 t 38).toNatClampNeg) fun x2 =>
      bnd (l6 + (1 : Int32)) fun x3 =>
      bnd (sI S1 p1 2) fun x4 =>
      F_X12_spreads_L67 sh f t p1 p2 n2 p3 p4 p5 (F_X12_spreads_L30 sh f t p1 p2 n2 p3 p4 p5 n) f S1 x3 x2 x4
    )
def F_X12_spreads (sh : List Sh) (f : Nat) (S : St) (t : Nat) (p1 : Nat) (p2 n2 : Nat) (p3 : Int32) (p4 : Int32) (p5 : Int32) : Option (Int32 × St) :=
  bnd (uI S t 38 (0 : Int32)) fun S1 =>
  if p4 < 0 ∨ 10395 ≤ p4.toNatClampNeg then none else
  bnd (uA S1 (t + 44) p4.toNatClampNeg p5) fun S2 =>
  if (0 : Int32) < 0 ∨ 10395 ≤ (0 : Int32).toNatClampNeg then none else
  bnd (uA S2 (t + 45) (0 : Int32).toNatClampNeg p4) fun S3 =>
  bnd (uI S3 t 38 (1 : Int32)) fun S4 =>
  F_X12_spreads_L30 sh f t p1 p2 n2 p3 p4 p5 f S4 (0 : Int32)
def F_X12_namingsOf_L98 (sh : List Sh) (f : Nat) (S : St) (t : Nat) (p1 : Nat) (p2 n2 : Nat) (p3 : Int32) (k77 : Int32 → Int32 → Int32 → Int32 → Option (Int32)) : Nat → Int32 → Int32 → Int32 → Int32 → Int32 → Int32 → Option (Int32)
  | 0, _, _, _, _, _, _ => none
  | n + 1, l4, l5, l7, l8, l9, l10 =>
    if l8 ≤ l10 then (
      bnd (l4 * l9) fun x1 =>
      bnd (l8 + (1 : Int32)) fun x2 =>
      k77 x1 l5 l7 x2
    ) else (
      (sR S t 5).bind fun b3 =>
      if ckX9 sh b3 = true then (
        if (((4 : Int32) * l7) + l10) < 0 ∨ 16 ≤ (((4 : Int32) * l7) + l10).toNatClampNeg then none else
        (sR S t 5).bind fun b4 =>
        if ckX9 sh b4 = true then (
          if (((4 : Int32) * l7) + l8) < 0 ∨ 16 ≤ (((4 : Int32) * l7) + l8).toNatClampNeg then none else
          if (sA S (b3 + 7) (((4 : Int32) * l7) + l10).toNatClampNeg) = (sA S (b4 + 7) (((4 : Int32) * l7) + l8).toNatClampNeg) then (
            bnd (l9 + (1 : Int32)) fun x7 =>
            bnd (l10 + (1 : Int32)) fun x8 =>
            F_X12_namingsOf_L98 sh f S t p1 p2 n2 p3 k77 n l4 l5 l7 l8 x7 x8
          ) else (
            bnd (l9 + (0 : Int32)) fun x5 =>
            bnd (l10 + (1 : Int32)) fun x6 =>
            F_X12_namingsOf_L98 sh f S t p1 p2 n2 p3 k77 n l4 l5 l7 l8 x5 x6
          )
        ) else none
      ) else none
    )
def F_X12_namingsOf_L77 (sh : List Sh) (f : Nat) (S : St) (t : Nat) (p1 : Nat) (p2 n2 : Nat) (p3 : Int32) (k6 : Int32 → Int32 → Option (Int32)) : Nat → Int32 → Int32 → Int32 → Int32 → Option (Int32)
  | 0, _, _, _, _ => none
  | n + 1, l4, l5, l7, l8 =>
    (sR S t 5).bind fun b1 =>
    if ckX9 sh b1 = true then (
      if l7 < 0 ∨ 4 ≤ l7.toNatClampNeg then none else
      if (sA S (b1 + 6) l7.toNatClampNeg) ≤ l8 then (
        bnd (l5 + (1 : Int32)) fun x2 =>
        k6 l4 x2
      ) else (
        F_X12_namingsOf_L98 sh f S t p1 p2 n2 p3 (F_X12_namingsOf_L77 sh f S t p1 p2 n2 p3 k6 n) f l4 l5 l7 l8 (1 : Int32) (0 : Int32)
      )
    ) else none
def F_X12_namingsOf_L21 (sh : List Sh) (f : Nat) (S : St) (t : Nat) (p1 : Nat) (p2 n2 : Nat) (p3 : Int32) (k6 : Int32 → Int32 → Option (Int32)) : Nat → Int32 → Int32 → Int32 → Int32 → Option (Int32)
  | 0, _, _, _, _ => none
  | n + 1, l4, l5, l6, l7 =>
    if l5 ≤ l7 then (
      bnd (l4 * l6) fun x1 =>
      if (p3 + l5) < 0 ∨ n2 ≤ (p3 + l5).toNatClampNeg then none else
      bnd (sA S p2 (p3 + l5).toNatClampNeg) fun x2 =>
      F_X12_namingsOf_L77 sh f S t p1 p2 n2 p3 k6 f x1 l5 x2 (0 : Int32)
    ) else (
      if (p3 + l7) < 0 ∨ n2 ≤ (p3 + l7).toNatClampNeg then none else
      if (p3 + l5) < 0 ∨ n2 ≤ (p3 + l5).toNatClampNeg then none else
      if (sA S p2 (p3 + l7).toNatClampNeg) = (sA S p2 (p3 + l5).toNatClampNeg) then (
        bnd (l6 + (1 : Int32)) fun x5 =>
        bnd (l7 + (1 : Int32)) fun x6 =>
        F_X12_namingsOf_L21 sh f S t p1 p2 n2 p3 k6 n l4 l5 x5 x6
      ) else (
        bnd (l6 + (0 : Int32)) fun x3 =>
        bnd (l7 + (1 : Int32)) fun x4 =>
        F_X12_namingsOf_L21 sh f S t p1 p2 n2 p3 k6 n l4 l5 x3 x4
      )
    )
def F_X12_namingsOf_L6 (sh : List Sh) (f : Nat) (S : St) (t : Nat) (p1 : Nat) (p2 n2 : Nat) (p3 : Int32) : Nat → Int32 → Int32 → Option (Int32)
  | 0, _, _ => none
  | n + 1, l4, l5 =>
    if (sI S p1 1) ≤ l5 then (
      some l4
    ) else (
      F_X12_namingsOf_L21 sh f S t p1 p2 n2 p3 (F_X12_namingsOf_L6 sh f S t p1 p2 n2 p3 n) f l4 l5 (1 : Int32) (0 : Int32)
    )
def F_X12_namingsOf (sh : List Sh) (f : Nat) (S : St) (t : Nat) (p1 : Nat) (p2 n2 : Nat) (p3 : Int32) : Option (Int32) :=
  F_X12_namingsOf_L6 sh f S t p1 p2 n2 p3 f (1 : Int32) (0 : Int32)
def F_X12_listsOf_L84 (sh : List Sh) (f : Nat) (t : Nat) (p1 : Nat) (k32 : St → Int32 → Int32 → Option (Int32 × St)) : Nat → St → Int32 → Int32 → Int32 → Int32 → Option (Int32 × St)
  | 0, _, _, _, _, _ => none
  | n + 1, S, l2, l3, l4, l5 =>
    if (sI S p1 1) ≤ l5 then (
      if l3 < 0 ∨ 10395 ≤ l3.toNatClampNeg then none else
      if l4 < 0 ∨ 200 ≤ l4.toNatClampNeg then none else
      bnd (uL S (p1 + 6) l4.toNatClampNeg (sL S (t + 43) l3.toNatClampNeg)) fun S1 =>
      if l4 < 0 ∨ 200 ≤ l4.toNatClampNeg then none else
      bnd (uA S1 (p1 + 5) l4.toNatClampNeg l2) fun S2 =>
      (F_X12_spreads sh f S2 t p1 (t + 48) 3 (0 : Int32) l3 l4).bind fun y3 =>
      if l4 < 0 ∨ 200 ≤ l4.toNatClampNeg then none else
      bnd (uA y3.2 (p1 + 4) l4.toNatClampNeg y3.1) fun S4 =>
      if l4 < 0 ∨ 200 ≤ l4.toNatClampNeg then none else
      bnd (uI S4 p1 3 ((sI S4 p1 3) + (sA S4 (p1 + 4) l4.toNatClampNeg))) fun S5 =>
      bnd (l3 + (1 : Int32)) fun x6 =>
      k32 S5 l2 x6
    ) else (
      if l5 < 0 ∨ 3 ≤ l5.toNatClampNeg then none else
      if (((3 : Int32) * l4) + l5) < 0 ∨ 600 ≤ (((3 : Int32) * l4) + l5).toNatClampNeg then none else
      bnd (uA S (p1 + 3) (((3 : Int32) * l4) + l5).toNatClampNeg (sA S (t + 48) l5.toNatClampNeg)) fun S7 =>
      bnd (l5 + (1 : Int32)) fun x8 =>
      F_X12_listsOf_L84 sh f t p1 k32 n S7 l2 l3 l4 x8
    )
def F_X12_listsOf_L32 (sh : List Sh) (f : Nat) (t : Nat) (p1 : Nat) : Nat → St → Int32 → Int32 → Option (Int32 × St)
  | 0, _, _, _ => none
  | n + 1, S, l2, l3 =>
    if (sI S t 35) ≤ l3 then (
      some ((1 : Int32), S)
    ) else (
      if l3 < 0 ∨ 10395 ≤ l3.toNatClampNeg then none else
      if (sA S (t + 44) l3.toNatClampNeg) = (-1 : Int32) then (
        if (sI S p1 0) = (200 : Int32) then (
          some ((0 : Int32), S)
        ) else (
          bnd (sI S p1 0) fun x1 =>
          bnd (uI S p1 0 ((sI S p1 0) + (1 : Int32))) fun S2 =>
          F_X12_listsOf_L84 sh f t p1 (F_X12_listsOf_L32 sh f t p1 n) f S2 l2 l3 x1 (0 : Int32)
        )
      ) else (
        bnd (l3 + (1 : Int32)) fun x3 =>
        F_X12_listsOf_L32 sh f t p1 n S l2 x3
      )
    )
def F_X12_listsOf (sh : List Sh) (f : Nat) (S : St) (t : Nat) (p1 : Nat) : Option (Int32 × St) :=
  (F_X12_lays sh f S t p1 (t + 48) 3 (0 : Int32)).bind fun y1 =>
  if y1.1 = 0 then (
    some ((1 : Int32), y1.2)
  ) else (
    (F_X12_pairs sh f y1.2 t).bind fun y2 =>
    (F_X12_namingsOf sh f y2 t p1 (t + 48) 3 (0 : Int32)).bind fun y3 =>
    F_X12_listsOf_L32 sh f t p1 f y2 y3 (0 : Int32)
  )
def F_X12_lists_L17 (sh : List Sh) (f : Nat) (t : Nat) (p1 : Nat) (p2 : Int32) (p3 : Int32) (kR : St → Nat → Nat → Int32 → Int32 → Option (Int32 × St)) : Nat → St → Int32 → Option (Int32 × St)
  | 0, _, _ => none
  | n + 1, S, l4 =>
    (sR S t 5).bind fun b1 =>
    if ckX9 sh b1 = true then (
      if (sI S b1 1) ≤ l4 then (
        some ((1 : Int32), S)
      ) else (
        if p2 < 0 ∨ 3 ≤ p2.toNatClampNeg then none else
        bnd (uA S (t + 48) p2.toNatClampNeg l4) fun S2 =>
        (kR S2 t p1 (p2 + (1 : Int32)) l4).bind fun y3 =>
        if y3.1 = 0 then (
          some ((0 : Int32), y3.2)
        ) else (
          bnd (l4 + (1 : Int32)) fun x4 =>
          F_X12_lists_L17 sh f t p1 p2 p3 kR n y3.2 x4
        )
      )
    ) else none
def F_X12_lists (sh : List Sh) (f : Nat) : Nat → St → Nat → Nat → Int32 → Int32 → Option (Int32 × St)
  | 0, _, _, _, _, _ => none
  | e + 1, S, t, p1, p2, p3 =>
    if p2 = (sI S p1 1) then (
      (F_X12_listsOf sh f S t p1).bind fun y1 =>
      if ¬ (y1.1 = 0 ∨ y1.1 = 1) then none else
      some (y1.1, y1.2)
    ) else (
      F_X12_lists_L17 sh f t p1 p2 p3 (F_X12_lists sh f e) f S p3
    )
