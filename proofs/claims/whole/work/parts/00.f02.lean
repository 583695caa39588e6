def F_X12_where (sh : List Sh) (f : Nat) (S : St) (t : Nat) : Option (Int32 × St) :=
  bnd (uI S t 0 (0 : Int32)) fun S1 =>
  some ((sI S1 t 2), S1)
def F_X12_isKind (sh : List Sh) (f : Nat) (S : St) (t : Nat) (p1 : Int32) : Option (Int32) :=
  oN (sR S t 5) (
    some (0 : Int32)
  ) (
    if p1 < 0 then (
      some (0 : Int32)
    ) else (
      (sR S t 5).bind fun b2 =>
      if ckX9 sh b2 = true then (
        if (sI S b2 0) ≤ p1 then (
          some (0 : Int32)
        ) else (
          some (1 : Int32)
        )
      ) else none
    )
  )
def F_X12_kind (sh : List Sh) (f : Nat) (S : St) (t : Nat) (p1 : Int32) (p2 : Int32) : Option (Int32 × St) :=
  bnd (uI S t 0 (0 : Int32)) fun S1 =>
  (F_X12_isKind sh f S1 t p1).bind fun y2 =>
  if y2 = 0 then (
    some ((-2147483648 : Int32), S1)
  ) else (
    if p2 = (0 : Int32) then (
      (sR S1 t 5).bind fun b3 =>
      if ckX9 sh b3 = true then (
        if p1 < 0 ∨ 8 ≤ p1.toNatClampNeg then none else
        some ((sA S1 (b3 + 2) p1.toNatClampNeg), S1)
      ) else none
    ) else (
    if p2 = (1 : Int32) then (
      (sR S1 t 5).bind fun b4 =>
      if ckX9 sh b4 = true then (
        if p1 < 0 ∨ 8 ≤ p1.toNatClampNeg then none else
        some ((sA S1 (b4 + 3) p1.toNatClampNeg), S1)
      ) else none
    ) else (
    if p2 = (2 : Int32) then (
      (sR S1 t 5).bind fun b5 =>
      if ckX9 sh b5 = true then (
        if p1 < 0 ∨ 8 ≤ p1.toNatClampNeg then none else
        some ((sA S1 (b5 + 4) p1.toNatClampNeg), S1)
      ) else none
    ) else (
    if p2 = (3 : Int32) then (
      (sR S1 t 5).bind fun b6 =>
      if ckX9 sh b6 = true then (
        if p1 < 0 ∨ 8 ≤ p1.toNatClampNeg then none else
        some ((sA S1 (b6 + 5) p1.toNatClampNeg), S1)
      ) else none
    ) else (
      some ((-2147483648 : Int32), S1)
    )
    )
    )
    )
  )
def F_X12_rule (sh : List Sh) (f : Nat) (S : St) (t : Nat) (p1 : Int32) (p2 : Int32) : Option (Int32 × St) :=
  bnd (uI S t 0 (0 : Int32)) fun S1 =>
  oN (sR S1 t 5) (
    some ((-2147483648 : Int32), S1)
  ) (
    if p1 < 0 then (
      some ((-2147483648 : Int32), S1)
    ) else (
      (sR S1 t 5).bind fun b3 =>
      if ckX9 sh b3 = true then (
        if (sI S1 b3 1) ≤ p1 then (
          some ((-2147483648 : Int32), S1)
        ) else (
          (F_X12_in sh f S1 p2 (0 : Int32) (6 : Int32)).bind fun y4 =>
          if y4 = 0 then (
            some ((-2147483648 : Int32), S1)
          ) else (
            if p2 = 0 then (
              (sR S1 t 5).bind fun b9 =>
              if ckX9 sh b9 = true then (
                if p1 < 0 ∨ 4 ≤ p1.toNatClampNeg then none else
                some ((sA S1 (b9 + 6) p1.toNatClampNeg), S1)
              ) else none
            ) else (
              if p2 = (1 : Int32) then (
                (sR S1 t 5).bind fun b8 =>
                if ckX9 sh b8 = true then (
                  if p1 < 0 ∨ 4 ≤ p1.toNatClampNeg then none else
                  some ((sA S1 (b8 + 8) p1.toNatClampNeg), S1)
                ) else none
              ) else (
                if p2 = (2 : Int32) then (
                  (sR S1 t 5).bind fun b7 =>
                  if ckX9 sh b7 = true then (
                    if p1 < 0 ∨ 4 ≤ p1.toNatClampNeg then none else
                    some ((sA S1 (b7 + 9) p1.toNatClampNeg), S1)
                  ) else none
                ) else (
                  (sR S1 t 5).bind fun b5 =>
                  if ckX9 sh b5 = true then (
                    if p1 < 0 ∨ 4 ≤ p1.toNatClampNeg then none else
                    if (sA S1 (b5 + 6) p1.toNatClampNeg) ≤ (p2 - (3 : Int32)) then (
                      some ((-2 : Int32), S1)
                    ) else (
                      (sR S1 t 5).bind fun b6 =>
                      if ckX9 sh b6 = true then (
                        if ((((4 : Int32) * p1) + p2) - (3 : Int32)) < 0 ∨ 16 ≤ ((((4 : Int32) * p1) + p2) - (3 : Int32)).toNatClampNeg then none else
                        some ((sA S1 (b6 + 7) ((((4 : Int32) * p1) + p2) - (3 : Int32)).toNatClampNeg), S1)
                      ) else none
                    )
                  ) else none
                )
              )
            )
          )
        )
      ) else none
    )
  )
def F_X12_meeting_L105 (sh : List Sh) (f : Nat) (t : Nat) (p1 : Int32) (p2 : Int32) (p3 : Int32) (p4 : Int32) (p5 : Int32) (p6 : Int32) (k27 : St → Int32 → Int32 → Int32 → Option (Int32 × St)) : St → Int32 → Int32 → Int32 → Int32 → Option (Int32 × St) := fun S l7 l9 l10 v0 =>
  if v0 = 0 then (
    bnd (l9 + (1 : Int32)) fun x5 =>
    k27 S l7 v0 x5
  ) else (
    (F_X12_isKind sh f S t l10).bind fun y1 =>
    if y1 = 0 then (
      (F_X12_refused sh f S t (1 : Int32)).bind fun y4 =>
      some (y4.1, y4.2)
    ) else (
      bnd (l7 + (1 : Int32)) fun x2 =>
      bnd (l9 + (1 : Int32)) fun x3 =>
      k27 S x2 v0 x3
    )
  )
def F_X12_meeting_L92 (sh : List Sh) (f : Nat) (t : Nat) (p1 : Int32) (p2 : Int32) (p3 : Int32) (p4 : Int32) (p5 : Int32) (p6 : Int32) (k27 : St → Int32 → Int32 → Int32 → Option (Int32 × St)) : St → Int32 → Int32 → Int32 → Option (Int32 × St) := fun S l7 l9 v0 =>
  if v0 = (-1 : Int32) then (
    F_X12_meeting_L105 sh f t p1 p2 p3 p4 p5 p6 k27 S l7 l9 v0 (0 : Int32)
  ) else (
    F_X12_meeting_L105 sh f t p1 p2 p3 p4 p5 p6 k27 S l7 l9 v0 (1 : Int32)
  )
def F_X12_meeting_L205 (sh : List Sh) (f : Nat) (t : Nat) (p1 : Int32) (p2 : Int32) (p3 : Int32) (p4 : Int32) (p5 : Int32) (p6 : Int32) : Nat → St → Int32 → Int32 → Option (Int32 × St)
  | 0, _, _, _ => none
  | n + 1, S, l7, l9 =>
    if (6 : Int32) ≤ l9 then (
      bnd (uI S t 18 (0 : Int32)) fun S1 =>
      (F_X12_done sh f S1 t l7).bind fun y2 =>
      some (y2.1, y2.2)
    ) else (
      if l9 < 0 ∨ 6 ≤ l9.toNatClampNeg then none else
      bnd (uA S (t + 15) l9.toNatClampNeg (0 : Int32)) fun S3 =>
      bnd (l9 + (1 : Int32)) fun x4 =>
      F_X12_meeting_L205 sh f t p1 p2 p3 p4 p5 p6 n S3 l7 x4
    )
def F_X12_meeting_L139 (sh : List Sh) (f : Nat) (t : Nat) (p1 : Int32) (p2 : Int32) (p3 : Int32) (p4 : Int32) (p5 : Int32) (p6 : Int32) : St → Int32 → Option (Int32 × St) := fun S l7 =>
  if (2 : Int32) ≤ l7 then (
    bnd (uI S t 17 l7) fun S1 =>
    if (0 : Int32) < 0 ∨ 6 ≤ (0 : Int32).toNatClampNeg then none else
    bnd (uA S1 (t + 14) (0 : Int32).toNatClampNeg p1) fun S2 =>
    if (1 : Int32) < 0 ∨ 6 ≤ (1 : Int32).toNatClampNeg then none else
    bnd (uA S2 (t + 14) (1 : Int32).toNatClampNeg p2) fun S3 =>
    if (2 : Int32) < 0 ∨ 6 ≤ (2 : Int32).toNatClampNeg then none else
    bnd (uA S3 (t + 14) (2 : Int32).toNatClampNeg p3) fun S4 =>
    if (3 : Int32) < 0 ∨ 6 ≤ (3 : Int32).toNatClampNeg then none else
    bnd (uA S4 (t + 14) (3 : Int32).toNatClampNeg p4) fun S5 =>
    if (4 : Int32) < 0 ∨ 6 ≤ (4 : Int32).toNatClampNeg then none else
    bnd (uA S5 (t + 14) (4 : Int32).toNatClampNeg p5) fun S6 =>
    if (5 : Int32) < 0 ∨ 6 ≤ (5 : Int32).toNatClampNeg then none else
    bnd (uA S6 (t + 14) (5 : Int32).toNatClampNeg p6) fun S7 =>
    F_X12_meeting_L205 sh f t p1 p2 p3 p4 p5 p6 f S7 l7 (0 : Int32)
  ) else (
    (F_X12_refused sh f S t (2 : Int32)).bind fun y8 =>
    some (y8.1, y8.2)
  )
def F_X12_meeting_L27 (sh : List Sh) (f : Nat) (t : Nat) (p1 : Int32) (p2 : Int32) (p3 : Int32) (p4 : Int32) (p5 : Int32) (p6 : Int32) : Nat → St → Int32 → Int32 → Int32 → Option (Int32 × St)
  | 0, _, _, _, _ => none
  | n + 1, S, l7, l8, l9 =>
    if (6 : Int32) ≤ l9 then (
      F_X12_meeting_L139 sh f t p1 p2 p3 p4 p5 p6 S l7
    ) else (
      if l8 = 0 then (
        F_X12_meeting_L139 sh f t p1 p2 p3 p4 p5 p6 S l7
      ) else (
        if l9 = 0 then (
          F_X12_meeting_L92 sh f t p1 p2 p3 p4 p5 p6 (F_X12_meeting_L27 sh f t p1 p2 p3 p4 p5 p6 n) S l7 l9 p1
        ) else (
          if l9 = (1 : Int32) then (
            F_X12_meeting_L92 sh f t p1 p2 p3 p4 p5 p6 (F_X12_meeting_L27 sh f t p1 p2 p3 p4 p5 p6 n) S l7 l9 p2
          ) else (
            if l9 = (2 : Int32) then (
              F_X12_meeting_L92 sh f t p1 p2 p3 p4 p5 p6 (F_X12_meeting_L27 sh f t p1 p2 p3 p4 p5 p6 n) S l7 l9 p3
            ) else (
              if l9 = (3 : Int32) then (
                F_X12_meeting_L92 sh f t p1 p2 p3 p4 p5 p6 (F_X12_meeting_L27 sh f t p1 p2 p3 p4 p5 p6 n) S l7 l9 p4
              ) else (
                if l9 = (4 : Int32) then (
                  F_X12_meeting_L92 sh f t p1 p2 p3 p4 p5 p6 (F_X12_meeting_L27 sh f t p1 p2 p3 p4 p5 p6 n) S l7 l9 p5
                ) else (
                  F_X12_meeting_L92 sh f t p1 p2 p3 p4 p5 p6 (F_X12_meeting_L27 sh f t p1 p2 p3 p4 p5 p6 n) S l7 l9 p6
                )
              )
            )
          )
        )
      )
    )
def F_X12_meeting (sh : List Sh) (f : Nat) (S : St) (t : Nat) (p1 : Int32) (p2 : Int32) (p3 : Int32) (p4 : Int32) (p5 : Int32) (p6 : Int32) : Option (Int32 × St) :=
  bnd (uI S t 0 (0 : Int32)) fun S1 =>
  oN (sR S1 t 5) (
    (F_X12_refused sh f S1 t (1 : Int32)).bind fun y3 =>
    some (y3.1, y3.2)
  ) (
    F_X12_meeting_L27 sh f t p1 p2 p3 p4 p5 p6 f S1 (0 : Int32) (1 : Int32) (0 : Int32)
  )
def F_X12_puts (sh : List Sh) (f : Nat) (S : St) (t : Nat) (p1 : Int32) (p2 : Int32) : Option (St) :=
  if (sI S t 25) < 0 ∨ 12 ≤ (sI S t 25).toNatClampNeg then none else
  bnd (uA S (t + 38) (sI S t 25).toNatClampNeg p1) fun S1 =>
  if (sI S1 t 25) < 0 ∨ 12 ≤ (sI S1 t 25).toNatClampNeg then none else
  bnd (uA S1 (t + 39) (sI S1 t 25).toNatClampNeg p2) fun S2 =>
  bnd (uI S2 t 25 ((sI S2 t 25) + (1 : Int32))) fun S3 =>
  some S3
def F_X12_lays_L92 (sh : List Sh) (f : Nat) (t : Nat) (p1 : Nat) (p2 n2 : Nat) (p3 : Int32) (k39 : St → Int32 → Option (Int32 × St)) : Nat → St → Int32 → Int32 → Int32 → Option (Int32 × St)
  | 0, _, _, _, _ => none
  | n + 1, S, l4, l5, l6 =>
    (sR S t 5).bind fun b1 =>
    if ckX9 sh b1 = true then (
      if l5 < 0 ∨ 4 ≤ l5.toNatClampNeg then none else
      if (sA S (b1 + 6) l5.toNatClampNeg) ≤ l6 then (
        bnd (l4 + (1 : Int32)) fun x2 =>
        k39 S x2
      ) else (
        (sR S t 5).bind fun b3 =>
        if ckX9 sh b3 = true then (
          if (((4 : Int32) * l5) + l6) < 0 ∨ 16 ≤ (((4 : Int32) * l5) + l6).toNatClampNeg then none else
          (F_X12_puts sh f S t (sA S (b3 + 7) (((4 : Int32) * l5) + l6).toNatClampNeg) ((sI S p1 2) + l4)).bind fun y4 =>
          bnd (l6 + (1 : Int32)) fun x5 =>
          F_X12_lays_L92 sh f t p1 p2 n2 p3 k39 n y4 l4 l5 x5
        ) else none
      )
    ) else none
def F_X12_lays_L39 (sh : List Sh) (f : Nat) (t : Nat) (p1 : Nat) (p2 n2 : Nat) (p3 : Int32) : Nat → St → Int32 → Option (Int32 × St)
  | 0, _, _ => none
  | n + 1, S, l4 =>
    if (sI S p1 1) ≤ l4 then (
      bnd (uI S t 26 ((sI S p1 2) + (sI S p1 1))) fun S1 =>
      if ((sI S1 t 25) - (sI S1 t 25) / (2 : Int32) * (2 : Int32)) = 0 then (
        some ((1 : Int32), S1)
      ) else (
        some ((0 : Int32), S1)
      )
    ) else (
      if (p3 + l4) < 0 ∨ n2 ≤ (p3 + l4).toNatClampNeg then none else
      bnd (sA S p2 (p3 + l4).toNatClampNeg) fun x2 =>
      (sR S t 5).bind fun b3 =>
      if ckX9 sh b3 = true then (
        if x2 < 0 ∨ 4 ≤ x2.toNatClampNeg then none else
        if ((sI S t 25) + (sA S (b3 + 6) x2.toNatClampNeg)) ≤ (12 : Int32) then (
          if l4 < 0 ∨ 3 ≤ l4.toNatClampNeg then none else
          bnd (uA S (t + 41) l4.toNatClampNeg (sI S t 25)) fun S4 =>
          F_X12_lays_L92 sh f t p1 p2 n2 p3 (F_X12_lays_L39 sh f t p1 p2 n2 p3 n) f S4 l4 x2 (0 : Int32)
        ) else (
          some ((0 : Int32), S)
        )
      ) else none
    )
def F_X12_lays_L8 (sh : List Sh) (f : Nat) (t : Nat) (p1 : Nat) (p2 n2 : Nat) (p3 : Int32) : Nat → St → Int32 → Option (Int32 × St)
  | 0, _, _ => none
  | n + 1, S, l4 =>
    if (sI S p1 2) ≤ l4 then (
      F_X12_lays_L39 sh f t p1 p2 n2 p3 f S (0 : Int32)
    ) else (
      if l4 < 0 ∨ 6 ≤ l4.toNatClampNeg then none else
      (F_X12_puts sh f S t (sA S (p1 + 1) l4.toNatClampNeg) l4).bind fun y1 =>
      bnd (l4 + (1 : Int32)) fun x2 =>
      F_X12_lays_L8 sh f t p1 p2 n2 p3 n y1 x2
    )
def F_X12_lays (sh : List Sh) (f : Nat) (S : St) (t : Nat) (p1 : Nat) (p2 n2 : Nat) (p3 : Int32) : Option (Int32 × St) :=
  bnd (uI S t 25 (0 : Int32)) fun S1 =>
  F_X12_lays_L8 sh f t p1 p2 n2 p3 f S1 (0 : Int32)
def F_X12_takes_L2 (sh : List Sh) (f : Nat) (t : Nat) (p1 : Int64) : Nat → St → Int32 → Option (St)
  | 0, _, _ => none
  | n + 1, S, l3 =>
    if (sI S t 25) ≤ l3 then (
      some S
    ) else (
      if l3 < 0 ∨ 12 ≤ l3.toNatClampNeg then none else
      bnd (uA S (t + 40) l3.toNatClampNeg (((p1 >>> (((4 : Int32) * ((11 : Int32) - l3)).toInt64 &&& 63)) &&& (15 : Int64)).toInt32)) fun S1 =>
      bnd (l3 + (1 : Int32)) fun x2 =>
      F_X12_takes_L2 sh f t p1 n S1 x2
    )
def F_X12_takes (sh : List Sh) (f : Nat) (S : St) (t : Nat) (p1 : Int64) : Option (St) :=
  F_X12_takes_L2 sh f t p1 f S (0 : Int32)
def F_X12_rowHere_L4 (sh : List Sh) (f : Nat) (S : St) (t : Nat) : Nat → Int64 → Int32 → Option (Int64)
  | 0, _, _ => none
  | n + 1, l1, l3 =>
    if (sI S t 25) ≤ l3 then (
      some l1
    ) else (
      if l3 < 0 ∨ 12 ≤ l3.toNatClampNeg then none else
      bnd (l1 ||| (((sA S (t + 40) l3.toNatClampNeg).toInt64) <<< (((4 : Int32) * ((11 : Int32) - l3)).toInt64 &&& 63))) fun x1 =>
      bnd (l3 + (1 : Int32)) fun x2 =>
      F_X12_rowHere_L4 sh f S t n x1 x2
    )
def F_X12_rowHere (sh : List Sh) (f : Nat) (S : St) (t : Nat) : Option (Int64) :=
  F_X12_rowHere_L4 sh f S t f (0 : Int64) (0 : Int32)
def F_X12_sets_L33 (sh : List Sh) (f : Nat) (t : Nat) (p1 : Int32) (k25 : St → Int32 → Option (Int32 × St)) : Nat → St → Int32 → Int32 → Option (Int32 × St)
  | 0, _, _, _ => none
  | n + 1, S, l2, l3 =>
    if (sI S t 25) ≤ l3 then (
      k25 S l2
    ) else (
      if l3 = p1 then (
        bnd (l3 + (1 : Int32)) fun x1 =>
        F_X12_sets_L33 sh f t p1 k25 n S l2 x1
      ) else (
        if l3 < 0 ∨ 12 ≤ l3.toNatClampNeg then none else
        if (sA S (t + 40) l3.toNatClampNeg) = p1 then (
          bnd (l3 + (1 : Int32)) fun x10 =>
          F_X12_sets_L33 sh f t p1 k25 n S l2 x10
        ) else (
          if l3 < 0 ∨ 12 ≤ l3.toNatClampNeg then none else
          if (sA S (t + 39) l3.toNatClampNeg) < 0 ∨ 9 ≤ (sA S (t + 39) l3.toNatClampNeg).toNatClampNeg then none else
          bnd (sA S (t + 42) (sA S (t + 39) l3.toNatClampNeg).toNatClampNeg) fun x2 =>
          if l3 < 0 ∨ 12 ≤ l3.toNatClampNeg then none else
          if (sA S (t + 40) l3.toNatClampNeg) < 0 ∨ 12 ≤ (sA S (t + 40) l3.toNatClampNeg).toNatClampNeg then none else
          if (sA S (t + 39) (sA S (t + 40) l3.toNatClampNeg).toNatClampNeg) < 0 ∨ 9 ≤ (sA S (t + 39) (sA S (t + 40) l3.toNatClampNeg).toNatClampNeg).toNatClampNeg then none else
          bnd (sA S (t + 42) (sA S (t + 39) (sA S (t + 40) l3.toNatClampNeg).toNatClampNeg).toNatClampNeg) fun x3 =>
          if x2 = x3 then (
            bnd (l3 + (1 : Int32)) fun x9 =>
            F_X12_sets_L33 sh f t p1 k25 n S l2 x9
          ) else (
            if l3 < 0 ∨ 12 ≤ l3.toNatClampNeg then none else
            (F_J9_min_7cf53 sh f S x2 x3).bind fun y4 =>
            if (sA S (t + 39) l3.toNatClampNeg) < 0 ∨ 9 ≤ (sA S (t + 39) l3.toNatClampNeg).toNatClampNeg then none else
            bnd (uA S (t + 42) (sA S (t + 39) l3.toNatClampNeg).toNatClampNeg y4) fun S5 =>
            if l3 < 0 ∨ 12 ≤ l3.toNatClampNeg then none else
            if (sA S5 (t + 40) l3.toNatClampNeg) < 0 ∨ 12 ≤ (sA S5 (t + 40) l3.toNatClampNeg).toNatClampNeg then none else
            (F_J9_min_7cf53 sh f S5 x2 x3).bind fun y6 =>
            if (sA S5 (t + 39) (sA S5 (t + 40) l3.toNatClampNeg).toNatClampNeg) < 0 ∨ 9 ≤ (sA S5 (t + 39) (sA S5 (t + 40) l3.toNatClampNeg).toNatClampNeg).toNatClampNeg then none else
            bnd (uA S5 (t + 42) (sA S5 (t + 39) (sA S5 (t + 40) l3.toNatClampNeg).toNatClampNeg).toNatClampNeg y6) fun S7 =>
            bnd (l3 + (1 : Int32)) fun x8 =>
            F_X12_sets_L33 sh f t p1 k25 n S7 (1 : Int32) x8
          )
        )
      )
    )
def F_X12_sets_L157 (sh : List Sh) (f : Nat) (t : Nat) (p1 : Int32) : Nat → St → Int32 → Int32 → Option (Int32 × St)
  | 0, _, _, _ => none
  | n + 1, S, l3, l4 =>
    if (sI S t 26) ≤ l4 then (
      some (l3, S)
    ) else (
      if l4 < 0 ∨ 9 ≤ l4.toNatClampNeg then none else
      if (sA S (t + 42) l4.toNatClampNeg) = l4 then (
        bnd (l3 + (1 : Int32)) fun x3 =>
        bnd (l4 + (1 : Int32)) fun x4 =>
        F_X12_sets_L157 sh f t p1 n S x3 x4
      ) else (
        bnd (l3 + (0 : Int32)) fun x1 =>
        bnd (l4 + (1 : Int32)) fun x2 =>
        F_X12_sets_L157 sh f t p1 n S x1 x2
      )
    )
def F_X12_sets_L25 (sh : List Sh) (f : Nat) (t : Nat) (p1 : Int32) : Nat → St → Int32 → Option (Int32 × St)
  | 0, _, _ => none
  | n + 1, S, l2 =>
    if l2 = 0 then (
      F_X12_sets_L157 sh f t p1 f S (0 : Int32) (0 : Int32)
    ) else (
      F_X12_sets_L33 sh f t p1 (F_X12_sets_L25 sh f t p1 n) f S (0 : Int32) (0 : Int32)
    )
def F_X12_sets_L2 (sh : List Sh) (f : Nat) (t : Nat) (p1 : Int32) : Nat → St → Int32 → Option (Int32 × St)
  | 0, _, _ => none
  | n + 1, S, l2 =>
    if (sI S t 26) ≤ l2 then (
      F_X12_sets_L25 sh f t p1 f S (1 : Int32)
    ) else (
      if l2 < 0 ∨ 9 ≤ l2.toNatClampNeg then none else
      bnd (uA S (t + 42) l2.toNatClampNeg l2) fun S1 =>
      bnd (l2 + (1 : Int32)) fun x2 =>
      F_X12_sets_L2 sh f t p1 n S1 x2
    )
def F_X12_sets (sh : List Sh) (f : Nat) (S : St) (t : Nat) (p1 : Int32) : Option (Int32 × St) :=
  F_X12_sets_L2 sh f t p1 f S (0 : Int32)
def F_X12_pairsFrom_L83 (sh : List Sh) (f : Nat) (t : Nat) (p1 : Int32) (kR : St → Nat → Int32 → Option (St)) : Nat → St → Int32 → Int32 → Option (St)
  | 0, _, _, _ => none
  | n + 1, S, l2, l3 =>
    if (sI S t 25) ≤ l3 then (
      some S
    ) else (
      if l3 < 0 ∨ 12 ≤ l3.toNatClampNeg then none else
      if (sA S (t + 40) l3.toNatClampNeg) = (-1 : Int32) then (
        (sR S t 5).bind fun b2 =>
        if ckX9 sh b2 = true then (
          if l2 < 0 ∨ 12 ≤ l2.toNatClampNeg then none else
          if (sA S (t + 38) l2.toNatClampNeg) < 0 ∨ 8 ≤ (sA S (t + 38) l2.toNatClampNeg).toNatClampNeg then none else
          if l3 < 0 ∨ 12 ≤ l3.toNatClampNeg then none else
          if (sA S (b2 + 2) (sA S (t + 38) l2.toNatClampNeg).toNatClampNeg) = (sA S (t + 38) l3.toNatClampNeg) then (
            if l2 < 0 ∨ 12 ≤ l2.toNatClampNeg then none else
            bnd (uA S (t + 40) l2.toNatClampNeg l3) fun S3 =>
            if l3 < 0 ∨ 12 ≤ l3.toNatClampNeg then none else
            bnd (uA S3 (t + 40) l3.toNatClampNeg l2) fun S4 =>
            (kR S4 t (l2 + (1 : Int32))).bind fun y5 =>
            if l2 < 0 ∨ 12 ≤ l2.toNatClampNeg then none else
            bnd (uA y5 (t + 40) l2.toNatClampNeg (-1 : Int32)) fun S6 =>
            if l3 < 0 ∨ 12 ≤ l3.toNatClampNeg then none else
            bnd (uA S6 (t + 40) l3.toNatClampNeg (-1 : Int32)) fun S7 =>
            bnd (l3 + (1 : Int32)) fun x8 =>
            F_X12_pairsFrom_L83 sh f t p1 kR n S7 l2 x8
          ) else (
            bnd (l3 + (1 : Int32)) fun x9 =>
            F_X12_pairsFrom_L83 sh f t p1 kR n S l2 x9
          )
        ) else none
      ) else (
        bnd (l3 + (1 : Int32)) fun x1 =>
        F_X12_pairsFrom_L83 sh f t p1 kR n S l2 x1
      )
    )
def F_X12_pairsFrom_L26 (sh : List Sh) (f : Nat) (t : Nat) (p1 : Int32) (kR : St → Nat → Int32 → Option (St)) : St → Int32 → Option (St) := fun S l2 =>
  if l2 = (sI S t 25) then (
    (F_X12_sets sh f S t (-2 : Int32)).bind fun y2 =>
    if y2.1 ≤ (1 : Int32) then (
      (F_X12_rowHere sh f y2.2 t).bind fun y3 =>
      if (sI y2.2 t 35) < 0 ∨ 10395 ≤ (sI y2.2 t 35).toNatClampNeg then none else
      bnd (uL y2.2 (t + 43) (sI y2.2 t 35).toNatClampNeg y3) fun S4 =>
      if (sI S4 t 35) < 0 ∨ 10395 ≤ (sI S4 t 35).toNatClampNeg then none else
      bnd (uA S4 (t + 44) (sI S4 t 35).toNatClampNeg (-1 : Int32)) fun S5 =>
      bnd (uI S5 t 35 ((sI S5 t 35) + (1 : Int32))) fun S6 =>
      some S6
    ) else (
      some y2.2
    )
  ) else (
    bnd (l2 + (1 : Int32)) fun x1 =>
    F_X12_pairsFrom_L83 sh f t p1 kR f S l2 x1
  )
def F_X12_pairsFrom_L2 (sh : List Sh) (f : Nat) (t : Nat) (p1 : Int32) (kR : St → Nat → Int32 → Option (St)) : Nat → St → Int32 → Option (St)
  | 0, _, _ => none
  | n + 1, S, l2 =>
    if (sI S t 25) ≤ l2 then (
      F_X12_pairsFrom_L26 sh f t p1 kR S l2
    ) else (
      if l2 < 0 ∨ 12 ≤ l2.toNatClampNeg then none else
      if (sA S (t + 40) l2.toNatClampNeg) = (-1 : Int32) then (
        F_X12_pairsFrom_L26 sh f t p1 kR S l2
      ) else (
        bnd (l2 + (1 : Int32)) fun x1 =>
        F_X12_pairsFrom_L2 sh f t p1 kR n S x1
      )
    )
def F_X12_pairsFrom (sh : List Sh) (f : Nat) : Nat → St → Nat → Int32 → Option (St)
  | 0, _, _, _ => none
  | e + 1, S, t, p1 =>
    F_X12_pairsFrom_L2 sh f t p1 (F_X12_pairsFrom sh f e) f S p1
