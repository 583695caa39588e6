def F_J0_checkIndex_df160 (sh : List Sh) (f : Nat) (S : St) (p0 : Int32) (p1 : Int32) : Option Unit :=
  if p0 < 0 then none else if p0 < p1 then some () else none
def F_J0_coder_7d493 (sh : List Sh) (f : Nat) (S : St) (i0 : Nat) : Option (Int32) :=
  if (1 : Int32) = 0 then (
    if ¬ vp_nar .byte (1 : Int32) = (1 : Int32) then none else
    some (1 : Int32)
  ) else (
    if ¬ vp_nar .byte (0 : Int32) = (0 : Int32) then none else
    some (0 : Int32)
  )
def F_J0_isLatin1_aae02 (sh : List Sh) (f : Nat) (S : St) (i0 : Nat) : Option (Int32) :=
  if (1 : Int32) = 0 then (
    some (0 : Int32)
  ) else (
    if (0 : Int32) = 0 then (
      some (1 : Int32)
    ) else (
      some (0 : Int32)
    )
  )
def F_J0_length_8abf5 (sh : List Sh) (f : Nat) (S : St) (i0 : Nat) : Option (Int32) :=
  (F_J0_coder_7d493 sh f S i0).bind fun y2 =>
  some ((Int32.ofNat (v_sb i0).length) >>> (y2 &&& 31))
def F_J1_charAt_3b067 (sh : List Sh) (f : Nat) (S : St) (i0 : Nat) (p1 : Int32) : Option (Int32) :=
  (F_J0_checkIndex_df160 sh f S p1 (Int32.ofNat (v_sb i0).length)).bind fun y1 =>
  if p1 < 0 ∨ (v_sb i0).length ≤ p1.toNatClampNeg then none else
  if ¬ vp_nar .char ((((v_tf (v_sb i0) p1.toNatClampNeg) &&& (255 : Int32)).toUInt32 % 65536).toInt32) = ((((v_tf (v_sb i0) p1.toNatClampNeg) &&& (255 : Int32)).toUInt32 % 65536).toInt32) then none else
  some ((((v_tf (v_sb i0) p1.toNatClampNeg) &&& (255 : Int32)).toUInt32 % 65536).toInt32)
def F_J0_charAt_5068e (sh : List Sh) (f : Nat) (S : St) (i0 : Nat) (p1 : Int32) : Option (Int32) :=
  (F_J0_isLatin1_aae02 sh f S i0).bind fun y1 =>
  if y1 = 0 then (
    none
  ) else (
    (F_J1_charAt_3b067 sh f S i0 p1).bind fun y4 =>
    if ¬ vp_nar .char y4 = y4 then none else
    some y4
  )
def F_X12_wordOf_L4 (sh : List Sh) (f : Nat) (S : St) (i0 : Nat) : Nat → Int64 → Int32 → Option (Int64)
  | 0, _, _ => none
  | n + 1, l1, l3 =>
    (F_J0_length_8abf5 sh f S i0).bind fun y1 =>
    if y1 ≤ l3 then (
      some l1
    ) else (
      (F_J0_charAt_5068e sh f S i0 l3).bind fun y2 =>
      bnd (((32 : Int64) * l1) + (((y2 - (97 : Int32)) + (1 : Int32)).toInt64)) fun x3 =>
      bnd (l3 + (1 : Int32)) fun x4 =>
      F_X12_wordOf_L4 sh f S i0 n x3 x4
    )
def F_X12_wordOf (sh : List Sh) (f : Nat) (S : St) (i0 : Nat) : Option (Int64) :=
  F_X12_wordOf_L4 sh f S i0 f (0 : Int64) (0 : Int32)
def F_X12_isWord (sh : List Sh) (f : Nat) (S : St) (t : Nat) (i1 : Nat) : Option (Int32) :=
  if (sI S t 12) = (2 : Int32) then (
    (F_X12_wordOf sh f S i1).bind fun y1 =>
    if (lg_cmp (sJ S t 16) y1) = 0 then (
      some (1 : Int32)
    ) else (
      some (0 : Int32)
    )
  ) else (
    some (0 : Int32)
  )
def F_X12_isName (sh : List Sh) (f : Nat) (S : St) (t : Nat) : Option (Int32) :=
  if (sI S t 12) = (2 : Int32) then (
    (F_X12_isWord sh f S t 0).bind fun y2 =>
    if y2 = 0 then (
      (F_X12_isWord sh f S t 1).bind fun y4 =>
      if y4 = 0 then (
        (F_X12_isWord sh f S t 2).bind fun y6 =>
        if y6 = 0 then (
          (F_X12_isWord sh f S t 3).bind fun y8 =>
          if y8 = 0 then (
            (F_X12_isWord sh f S t 4).bind fun y10 =>
            if y10 = 0 then (
              some (1 : Int32)
            ) else (
              some (0 : Int32)
            )
          ) else (
            some (0 : Int32)
          )
        ) else (
          some (0 : Int32)
        )
      ) else (
        some (0 : Int32)
      )
    ) else (
      some (0 : Int32)
    )
  ) else (
    some (0 : Int32)
  )
def F_X12_stopAt (sh : List Sh) (f : Nat) (S : St) (t : Nat) (p1 : Int32) (p2 : Int32) : Option (Nat × St) :=
  bnd (uI S (t + 12) 6 p1) fun S1 =>
  bnd (uI S1 (t + 12) 7 p2) fun S2 =>
  some (t + 12, S2)
def F_X12_stop (sh : List Sh) (f : Nat) (S : St) (t : Nat) (p1 : Int32) : Option (Nat × St) :=
  (F_X12_stopAt sh f S t p1 (sI S t 13)).bind fun y1 =>
  if ¬ ckX11 sh y1.1 = true then none else
  some (y1.1, y1.2)
def F_X12_readNew (sh : List Sh) (f : Nat) (S : St) (t : Nat) : Option ((Int32 × St) ⊕ (Nat × St)) :=
  (F_X12_isName sh f S t).bind fun y1 =>
  if y1 = 0 then (
    (F_X12_stop sh f S t (1 : Int32)).bind fun y14 =>
    if ¬ ckX11 sh y14.1 = true then none else
    some (.inr (y14.1, y14.2))
  ) else (
    (sR S t 6).bind fun b2 =>
    if ckX9 sh b2 = true then (
      (F_X9_kindOf sh f S b2 (sJ S t 16)).bind fun y3 =>
      if y3 = (-1 : Int32) then (
        (sR S t 6).bind fun b4 =>
        if ckX9 sh b4 = true then (
          if (sI S b4 0) = (8 : Int32) then (
            (F_X12_stop sh f S t (6 : Int32)).bind fun y12 =>
            if ¬ ckX11 sh y12.1 = true then none else
            some (.inr (y12.1, y12.2))
          ) else (
            (sR S t 6).bind fun b5 =>
            if ckX9 sh b5 = true then (
              (sR S t 6).bind fun b6 =>
              if ckX9 sh b6 = true then (
                if (sI S b6 0) < 0 ∨ 8 ≤ (sI S b6 0).toNatClampNeg then none else
                bnd (uL S (b5 + 1) (sI S b6 0).toNatClampNeg (sJ S t 16)) fun S7 =>
                (sR S7 t 6).bind fun b8 =>
                if ckX9 sh b8 = true then (
                  bnd (uI S7 b8 0 ((sI S7 b8 0) + (1 : Int32))) fun S9 =>
                  (F_X12_next sh f S9 t).bind fun y10 =>
                  (sR y10 t 6).bind fun b11 =>
                  if ckX9 sh b11 = true then (
                    some (.inl (((sI y10 b11 0) - (1 : Int32)), y10))
                  ) else none
                ) else none
              ) else none
            ) else none
          )
        ) else none
      ) else (
        (F_X12_stop sh f S t (3 : Int32)).bind fun y13 =>
        if ¬ ckX11 sh y13.1 = true then none else
        some (.inr (y13.1, y13.2))
      )
    ) else none
  )
def F_X12_readInt_L22 (sh : List Sh) (f : Nat) (t : Nat) (p1 : Int32) (p2 : Int32) : St → Int32 → Int32 → Option ((Int32 × St) ⊕ (Nat × St)) := fun S l3 l4 =>
  if (sI S t 12) = (3 : Int32) then (
    if p1 < (sI S t 15) then (
      (F_X12_stopAt sh f S t (4 : Int32) l3).bind fun y1 =>
      if ¬ ckX11 sh y1.1 = true then none else
      some (.inr (y1.1, y1.2))
    ) else (
      if p2 = 0 then (
        if l4 = 0 then (
          bnd (sI S t 15) fun x2 =>
          (F_X12_next sh f S t).bind fun y3 =>
          some (.inl (x2, y3))
        ) else (
          bnd (-(sI S t 15)) fun x4 =>
          (F_X12_next sh f S t).bind fun y5 =>
          some (.inl (x4, y5))
        )
      ) else (
        if (sI S t 15) = 0 then (
          (F_X12_stopAt sh f S t (4 : Int32) l3).bind fun y10 =>
          if ¬ ckX11 sh y10.1 = true then none else
          some (.inr (y10.1, y10.2))
        ) else (
          if l4 = 0 then (
            bnd (sI S t 15) fun x6 =>
            (F_X12_next sh f S t).bind fun y7 =>
            some (.inl (x6, y7))
          ) else (
            bnd (-(sI S t 15)) fun x8 =>
            (F_X12_next sh f S t).bind fun y9 =>
            some (.inl (x8, y9))
          )
        )
      )
    )
  ) else (
    (F_X12_stop sh f S t (1 : Int32)).bind fun y11 =>
    if ¬ ckX11 sh y11.1 = true then none else
    some (.inr (y11.1, y11.2))
  )
def F_X12_readInt (sh : List Sh) (f : Nat) (S : St) (t : Nat) (p1 : Int32) (p2 : Int32) : Option ((Int32 × St) ⊕ (Nat × St)) :=
  bnd (sI S t 13) fun x1 =>
  (F_X12_is sh f S t (45 : Int32)).bind fun y2 =>
  if y2 = 0 then (
    F_X12_readInt_L22 sh f t p1 p2 S x1 y2
  ) else (
    (F_X12_next sh f S t).bind fun y3 =>
    F_X12_readInt_L22 sh f t p1 p2 y3 x1 y2
  )
def F_X12_readKinds_L137 (sh : List Sh) (f : Nat) (t : Nat) (p1 : Int32) (k85 : St → Int32 → Int32 → Int32 → Int32 → Int32 → Option ((St) ⊕ (Nat × St))) : St → Int32 → Int32 → Int32 → Int32 → Int32 → Nat → Int32 → Int32 → Option ((St) ⊕ (Nat × St)) := fun S l2 l3 l4 l5 l6 v0 v1 v2 =>
  if v1 < 0 ∨ 8 ≤ v1.toNatClampNeg then none else
  bnd (uA S v0 v1.toNatClampNeg v2) fun S1 =>
  (sR S1 t 6).bind fun b2 =>
  if ckX9 sh b2 = true then (
    if l6 < 0 ∨ 8 ≤ l6.toNatClampNeg then none else
    bnd (uA S1 (b2 + 2) l6.toNatClampNeg ((l2 + l3) - l6)) fun S3 =>
    (sR S3 t 6).bind fun b4 =>
    if ckX9 sh b4 = true then (
      if l6 ≤ l2 then (
        if l6 < 0 ∨ 8 ≤ l6.toNatClampNeg then none else
        bnd (uA S3 (b4 + 10) l6.toNatClampNeg (vp_nar .boolean (0 : Int32))) fun S5 =>
        bnd (l6 + (1 : Int32)) fun x6 =>
        k85 S5 l2 l3 l4 l5 x6
      ) else (
        if l6 < 0 ∨ 8 ≤ l6.toNatClampNeg then none else
        bnd (uA S3 (b4 + 10) l6.toNatClampNeg (vp_nar .boolean (1 : Int32))) fun S7 =>
        bnd (l6 + (1 : Int32)) fun x8 =>
        k85 S7 l2 l3 l4 l5 x8
      )
    ) else none
  ) else none
def F_X12_readKinds_L85 (sh : List Sh) (f : Nat) (t : Nat) (p1 : Int32) : Nat → St → Int32 → Int32 → Int32 → Int32 → Int32 → Option ((St) ⊕ (Nat × St))
  | 0, _, _, _, _, _, _ => none
  | n + 1, S, l2, l3, l4, l5, l6 =>
    if l3 < l6 then (
      some (.inl S)
    ) else (
      (sR S t 6).bind fun b1 =>
      if ckX9 sh b1 = true then (
        if l6 < 0 ∨ 8 ≤ l6.toNatClampNeg then none else
        bnd (uA S (b1 + 5) l6.toNatClampNeg p1) fun S2 =>
        (sR S2 t 6).bind fun b3 =>
        if ckX9 sh b3 = true then (
          if l6 < 0 ∨ 8 ≤ l6.toNatClampNeg then none else
          bnd (uA S2 (b3 + 3) l6.toNatClampNeg l4) fun S4 =>
          (sR S4 t 6).bind fun b5 =>
          if ckX9 sh b5 = true then (
            if l6 = l2 then (
              F_X12_readKinds_L137 sh f t p1 (F_X12_readKinds_L85 sh f t p1 n) S4 l2 l3 l4 l5 l6 (b5 + 4) l6 l5
            ) else (
              F_X12_readKinds_L137 sh f t p1 (F_X12_readKinds_L85 sh f t p1 n) S4 l2 l3 l4 l5 l6 (b5 + 4) l6 (-l5)
            )
          ) else none
        ) else none
      ) else none
    )
def F_X12_readKinds_L21 (sh : List Sh) (f : Nat) (t : Nat) (p1 : Int32) : St → Int32 → Int32 → Option ((St) ⊕ (Nat × St)) := fun S l2 v0 =>
  if (sI S t 12) = (3 : Int32) then (
    (F_X12_in sh f S (sI S t 15) (1 : Int32) (99 : Int32)).bind fun y1 =>
    if y1 = 0 then (
      (F_X12_stop sh f S t (4 : Int32)).bind fun y6 =>
      if ¬ ckX11 sh y6.1 = true then none else
      some (.inr (y6.1, y6.2))
    ) else (
      bnd (sI S t 15) fun x2 =>
      (F_X12_next sh f S t).bind fun y3 =>
      if p1 = 0 then (
        F_X12_readKinds_L85 sh f t p1 f y3 l2 v0 x2 (0 : Int32) l2
      ) else (
        (F_X12_readInt sh f y3 t (9 : Int32) (0 : Int32)).bind fun y4 => thr y4 fun y4 =>
        bnd y4.1 fun x5 =>
        F_X12_readKinds_L85 sh f t p1 f y4.2 l2 v0 x2 x5 l2
      )
    )
  ) else (
    (F_X12_stop sh f S t (1 : Int32)).bind fun y7 =>
    if ¬ ckX11 sh y7.1 = true then none else
    some (.inr (y7.1, y7.2))
  )
def F_X12_readKinds (sh : List Sh) (f : Nat) (S : St) (t : Nat) (p1 : Int32) : Option ((St) ⊕ (Nat × St)) :=
  (F_X12_next sh f S t).bind fun y1 =>
  (F_X12_readNew sh f y1 t).bind fun y2 => thr y2 fun y2 =>
  bnd y2.1 fun x3 =>
  if p1 = 0 then (
    F_X12_readKinds_L21 sh f t p1 y2.2 x3 x3
  ) else (
    (F_X12_readNew sh f y2.2 t).bind fun y4 => thr y4 fun y4 =>
    F_X12_readKinds_L21 sh f t p1 y4.2 x3 y4.1
  )
def F_X12_readMeet_L49 (sh : List Sh) (f : Nat) (t : Nat) (k37 : St → Int32 → Int32 → Int32 → Option ((St) ⊕ (Nat × St))) : St → Int32 → Int32 → Int32 → Option ((St) ⊕ (Nat × St)) := fun S l1 l2 l3 =>
  (F_X12_isName sh f S t).bind fun y1 =>
  if y1 = 0 then (
    (F_X12_stop sh f S t (1 : Int32)).bind fun y10 =>
    if ¬ ckX11 sh y10.1 = true then none else
    some (.inr (y10.1, y10.2))
  ) else (
    (sR S t 6).bind fun b2 =>
    if ckX9 sh b2 = true then (
      (F_X9_kindOf sh f S b2 (sJ S t 16)).bind fun y3 =>
      if y3 = (-1 : Int32) then (
        (F_X12_stop sh f S t (2 : Int32)).bind fun y9 =>
        if ¬ ckX11 sh y9.1 = true then none else
        some (.inr (y9.1, y9.2))
      ) else (
        if l3 = (4 : Int32) then (
          (F_X12_stop sh f S t (6 : Int32)).bind fun y8 =>
          if ¬ ckX11 sh y8.1 = true then none else
          some (.inr (y8.1, y8.2))
        ) else (
          (sR S t 6).bind fun b4 =>
          if ckX9 sh b4 = true then (
            if (((4 : Int32) * l2) + l3) < 0 ∨ 16 ≤ (((4 : Int32) * l2) + l3).toNatClampNeg then none else
            bnd (uA S (b4 + 7) (((4 : Int32) * l2) + l3).toNatClampNeg y3) fun S5 =>
            bnd (l3 + (1 : Int32)) fun x6 =>
            (F_X12_next sh f S5 t).bind fun y7 =>
            k37 y7 l1 l2 x6
          ) else none
        )
      )
    ) else none
  )
def F_X12_readMeet_L234 (sh : List Sh) (f : Nat) (t : Nat) : St → Int32 → Int32 → Nat → Int32 → Int32 → Option ((St) ⊕ (Nat × St)) := fun S l1 l2 v0 v1 v2 =>
  if v1 < 0 ∨ 4 ≤ v1.toNatClampNeg then none else
  bnd (uA S v0 v1.toNatClampNeg v2) fun S1 =>
  (sR S1 t 6).bind fun b2 =>
  if ckX9 sh b2 = true then (
    if l2 < 0 ∨ 4 ≤ l2.toNatClampNeg then none else
    if (sA S1 (b2 + 9) l2.toNatClampNeg) = (-1 : Int32) then (
      (F_X12_stop sh f S1 t (4 : Int32)).bind fun y8 =>
      if ¬ ckX11 sh y8.1 = true then none else
      some (.inr (y8.1, y8.2))
    ) else (
      (F_X12_isEven sh f S1 t l2).bind fun y3 =>
      if y3 = 0 then (
        (F_X12_stopAt sh f S1 t (5 : Int32) l1).bind fun y7 =>
        if ¬ ckX11 sh y7.1 = true then none else
        some (.inr (y7.1, y7.2))
      ) else (
        (sR S1 t 6).bind fun b4 =>
        if ckX9 sh b4 = true then (
          bnd (uI S1 b4 1 ((sI S1 b4 1) + (1 : Int32))) fun S5 =>
          (F_X12_next sh f S5 t).bind fun y6 =>
          some (.inl y6)
        ) else none
      )
    )
  ) else none
def F_X12_readMeet_L37 (sh : List Sh) (f : Nat) (t : Nat) : Nat → St → Int32 → Int32 → Int32 → Option ((St) ⊕ (Nat × St))
  | 0, _, _, _, _ => none
  | n + 1, S, l1, l2, l3 =>
    if l3 < (3 : Int32) then (
      F_X12_readMeet_L49 sh f t (F_X12_readMeet_L37 sh f t n) S l1 l2 l3
    ) else (
      (F_X12_isName sh f S t).bind fun y1 =>
      if y1 = 0 then (
        (F_X12_isWord sh f S t 4).bind fun y3 =>
        if y3 = 0 then (
          (F_X12_stop sh f S t (1 : Int32)).bind fun y18 =>
          if ¬ ckX11 sh y18.1 = true then none else
          some (.inr (y18.1, y18.2))
        ) else (
          (F_X12_next sh f S t).bind fun y4 =>
          (sR y4 t 6).bind fun b5 =>
          if ckX9 sh b5 = true then (
            if l2 < 0 ∨ 4 ≤ l2.toNatClampNeg then none else
            bnd (uA y4 (b5 + 6) l2.toNatClampNeg l3) fun S6 =>
            (sR S6 t 6).bind fun b7 =>
            if ckX9 sh b7 = true then (
              (F_X12_readInt sh f S6 t (99 : Int32) (1 : Int32)).bind fun y8 => thr y8 fun y8 =>
              if l2 < 0 ∨ 4 ≤ l2.toNatClampNeg then none else
              bnd (uA y8.2 (b7 + 8) l2.toNatClampNeg y8.1) fun S9 =>
              if (sI S9 t 12) = (2 : Int32) then (
                (sR S9 t 6).bind fun b10 =>
                if ckX9 sh b10 = true then (
                  (F_X12_isWord sh f S9 t 5).bind fun y12 =>
                  if y12 = 0 then (
                    (F_X12_isWord sh f S9 t 6).bind fun y14 =>
                    if y14 = 0 then (
                      (F_X12_isWord sh f S9 t 7).bind fun y16 =>
                      if y16 = 0 then (
                        F_X12_readMeet_L234 sh f t S9 l1 l2 (b10 + 9) l2 (-1 : Int32)
                      ) else (
                        F_X12_readMeet_L234 sh f t S9 l1 l2 (b10 + 9) l2 (2 : Int32)
                      )
                    ) else (
                      F_X12_readMeet_L234 sh f t S9 l1 l2 (b10 + 9) l2 (1 : Int32)
                    )
                  ) else (
                    F_X12_readMeet_L234 sh f t S9 l1 l2 (b10 + 9) l2 (0 : Int32)
                  )
                ) else none
              ) else (
                (F_X12_stop sh f S9 t (1 : Int32)).bind fun y17 =>
                if ¬ ckX11 sh y17.1 = true then none else
                some (.inr (y17.1, y17.2))
              )
            ) else none
          ) else none
        )
      ) else (
        F_X12_readMeet_L49 sh f t (F_X12_readMeet_L37 sh f t n) S l1 l2 l3
      )
    )
def F_X12_readMeet (sh : List Sh) (f : Nat) (S : St) (t : Nat) : Option ((St) ⊕ (Nat × St)) :=
  bnd (sI S t 13) fun x1 =>
  (sR S t 6).bind fun b2 =>
  if ckX9 sh b2 = true then (
    if (sI S b2 1) = (4 : Int32) then (
      (F_X12_stop sh f S t (6 : Int32)).bind fun y6 =>
      if ¬ ckX11 sh y6.1 = true then none else
      some (.inr (y6.1, y6.2))
    ) else (
      (sR S t 6).bind fun b3 =>
      if ckX9 sh b3 = true then (
        bnd (sI S b3 1) fun x4 =>
        (F_X12_next sh f S t).bind fun y5 =>
        F_X12_readMeet_L37 sh f t f y5 x1 x4 (0 : Int32)
      ) else none
    )
  ) else none
def F_X12_readBook_L2 (sh : List Sh) (f : Nat) (t : Nat) : Nat → St → Int32 → Option ((St) ⊕ (Nat × St))
  | 0, _, _ => none
  | n + 1, S, l1 =>
    if l1 = 0 then (
      if (sI S t 12) = (1 : Int32) then (
        some (.inl S)
      ) else (
        (F_X12_stop sh f S t (1 : Int32)).bind fun y1 =>
        if ¬ ckX11 sh y1.1 = true then none else
        some (.inr (y1.1, y1.2))
      )
    ) else (
      (F_X12_isWord sh f S t 0).bind fun y3 =>
      if y3 = 0 then (
        (F_X12_isWord sh f S t 1).bind fun y5 =>
        if y5 = 0 then (
          (F_X12_isWord sh f S t 2).bind fun y7 =>
          if y7 = 0 then (
            (F_X12_isWord sh f S t 3).bind fun y9 =>
            if y9 = 0 then (
              (F_X12_stop sh f S t (1 : Int32)).bind fun y10 =>
              if ¬ ckX11 sh y10.1 = true then none else
              some (.inr (y10.1, y10.2))
            ) else (
              (F_X12_readMeet sh f S t).bind fun y11 => thr y11 fun y11 =>
              (F_X12_is sh f y11 t (59 : Int32)).bind fun y12 =>
              if y12 = 0 then (
                F_X12_readBook_L2 sh f t n y11 y12
              ) else (
                (F_X12_next sh f y11 t).bind fun y13 =>
                F_X12_readBook_L2 sh f t n y13 y12
              )
            )
          ) else (
            (F_X12_readKinds sh f S t (2 : Int32)).bind fun y14 => thr y14 fun y14 =>
            (F_X12_is sh f y14 t (59 : Int32)).bind fun y15 =>
            if y15 = 0 then (
              F_X12_readBook_L2 sh f t n y14 y15
            ) else (
              (F_X12_next sh f y14 t).bind fun y16 =>
              F_X12_readBook_L2 sh f t n y16 y15
            )
          )
        ) else (
          (F_X12_readKinds sh f S t (1 : Int32)).bind fun y17 => thr y17 fun y17 =>
          (F_X12_is sh f y17 t (59 : Int32)).bind fun y18 =>
          if y18 = 0 then (
            F_X12_readBook_L2 sh f t n y17 y18
          ) else (
            (F_X12_next sh f y17 t).bind fun y19 =>
            F_X12_readBook_L2 sh f t n y19 y18
          )
        )
      ) else (
        (F_X12_readKinds sh f S t (0 : Int32)).bind fun y20 => thr y20 fun y20 =>
        (F_X12_is sh f y20 t (59 : Int32)).bind fun y21 =>
        if y21 = 0 then (
          F_X12_readBook_L2 sh f t n y20 y21
        ) else (
          (F_X12_next sh f y20 t).bind fun y22 =>
          F_X12_readBook_L2 sh f t n y22 y21
        )
      )
    )
def F_X12_readBook (sh : List Sh) (f : Nat) (S : St) (t : Nat) : Option ((St) ⊕ (Nat × St)) :=
  F_X12_readBook_L2 sh f t f S (1 : Int32)
def F_X12_book_L143 (sh : List Sh) (f : Nat) (t : Nat) (p1 : Int32) : Nat → St → Int32 → Option (List Sh × Int32 × St)
  | 0, _, _ => none
  | n + 1, S, l3 =>
    if (3 : Int32) ≤ l3 then (
      (sR S t 5).bind fun b1 =>
      if ckX9 sh b1 = true then (
        (F_X12_done sh f S t (sI S b1 0)).bind fun y2 =>
        some (sh, y2.1, y2.2)
      ) else none
    ) else (
      if l3 < 0 ∨ 3 ≤ l3.toNatClampNeg then none else
      bnd (uA S (t + 16) l3.toNatClampNeg (1 : Int32)) fun S3 =>
      bnd (l3 + (1 : Int32)) fun x4 =>
      F_X12_book_L143 sh f t p1 n S3 x4
    )
def F_X12_book_L128 (sh : List Sh) (f : Nat) (t : Nat) (p1 : Int32) : St → Nat → Nat → Option (List Sh × Int32 × St) := fun S v0 v1 =>
  bnd (uR S v0 6 (some v1)) fun S1 =>
  bnd (uI S1 t 17 (0 : Int32)) fun S2 =>
  bnd (uI S2 t 18 (0 : Int32)) fun S3 =>
  F_X12_book_L143 sh f t p1 f S3 (0 : Int32)
def F_X12_book (sh : List Sh) (f : Nat) (S : St) (t : Nat) (p1 : Int32) : Option (List Sh × Int32 × St) :=
  bnd (uI S t 0 (0 : Int32)) fun S1 =>
  if p1 < 0 then (
    (F_X12_refused sh f S1 t (2 : Int32)).bind fun y2 =>
    some (sh, y2.1, y2.2)
  ) else (
    if p1 ≤ (sI S1 t 9) then (
      bnd (uI S1 t 10 p1) fun S3 =>
      bnd (uI S3 t 9 (0 : Int32)) fun S4 =>
      bnd (uI S4 t 11 (0 : Int32)) fun S5 =>
      bnd (uI S5 t 3 (0 : Int32)) fun S6 =>
      (sR S6 t 6).bind fun b7 =>
      if ckX9 sh b7 = true then (
        bnd (uI S6 b7 0 (0 : Int32)) fun S8 =>
        (sR S8 t 6).bind fun b9 =>
        if ckX9 sh b9 = true then (
          bnd (uI S8 b9 1 (0 : Int32)) fun S10 =>
          (F_X12_next sh f S10 t).bind fun y11 =>
          (F_X12_readBook sh f y11 t).bind fun y12 => thr2 y12 (fun y12 =>
            oM (sR y12 t 5) (
              (sR y12 t 6).bind fun b14 =>
              if ckX9 sh b14 = true then (
                bnd (uR y12 t 5 (some b14)) fun S15 =>
                F_X12_book_L128 (sh ++ bkSh) f t p1 (zS S15 sh.length) t sh.length
              ) else none
            ) fun b13 =>
            if ckX9 sh b13 = true then (
              (sR y12 t 6).bind fun b16 =>
              if ckX9 sh b16 = true then (
                bnd (uR y12 t 5 (some b16)) fun S17 =>
                F_X12_book_L128 sh f t p1 S17 t b13
              ) else none
            ) else none
          ) fun w9 =>
          if ¬ ckX11 sh w9.1 = true then none else
          bnd (uI w9.2 t 3 (sI w9.2 w9.1 6)) fun S18 =>
          bnd (uI S18 t 1 (4 : Int32)) fun S19 =>
          bnd (uI S19 t 2 (sI S19 w9.1 7)) fun S20 =>
          bnd (uI S20 t 4 (-1 : Int32)) fun S21 =>
          some (sh, (-1 : Int32), S21)
        ) else none
      ) else none
    ) else (
      (F_X12_refused sh f S1 t (2 : Int32)).bind fun y22 =>
      some (sh, y22.1, y22.2)
    )
  )
def F_X8_side (sh : List Sh) (f : Nat) (S : St) (t : Nat) (p1 p2 : Int32) : Option ((Int32 × St) ⊕ St) :=
  (F_X8_isListed sh f S t p1).bind fun y1 =>
  if y1 = 0 then some (.inr S) else
  (sR S t 11).bind fun b2 =>
  if ckX3 sh b2 = true then
    (F_X3_hasCut sh f S b2 p1 p2).bind fun y3 =>
    if y3 = 0 then some (.inr S) else
    (F_X3_sideOf sh f S b2 p1 p2).bind fun y4 => some (.inl (y4, S))
  else none
def F_L_side (sh : List Sh) (f : Nat) (S : St) (t : Nat) (p1 p2 : Int32) (o : Nat) : Option (List Sh × Int32 × St) :=
  (F_X8_side sh f S t p1 p2).bind fun y => match y with
  | .inl q => bnd (uL q.2 o 0 q.1.toInt64) fun S1 => some (sh, 0, S1)
  | .inr S1 => some (sh ++ exSh, 1, S1)
def F_L_law_L1234 (f : Nat) (xs : Nat → Int32) (Ln : Nat) (k23 : List Sh → St → Int32 → Option Int32) : List Sh → St → Int32 → Option Int32 := fun sh S l4 =>
  bnd (l4 + (8 : Int32)) fun x1 =>
  k23 sh S x1
def F_L_law_L160 (f : Nat) (xs : Nat → Int32) (Ln : Nat) (k23 : List Sh → St → Int32 → Option Int32) : List Sh → St → Int32 → Option Int32 := fun sh S l4 =>
  if (l4 + (1 : Int32)) < 0 ∨ Ln ≤ (l4 + (1 : Int32)).toNatClampNeg then none else
  if (l4 + (2 : Int32)) < 0 ∨ Ln ≤ (l4 + (2 : Int32)).toNatClampNeg then none else
  if (l4 + (3 : Int32)) < 0 ∨ Ln ≤ (l4 + (3 : Int32)).toNatClampNeg then none else
  if (l4 + (4 : Int32)) < 0 ∨ Ln ≤ (l4 + (4 : Int32)).toNatClampNeg then none else
  if (l4 + (5 : Int32)) < 0 ∨ Ln ≤ (l4 + (5 : Int32)).toNatClampNeg then none else
  (F_X8_feed sh f S 0 (xs (l4 + (1 : Int32)).toNatClampNeg) (xs (l4 + (2 : Int32)).toNatClampNeg) (xs (l4 + (3 : Int32)).toNatClampNeg) (xs (l4 + (4 : Int32)).toNatClampNeg) (xs (l4 + (5 : Int32)).toNatClampNeg)).bind fun y1 =>
  if (l4 + (1 : Int32)) < 0 ∨ Ln ≤ (l4 + (1 : Int32)).toNatClampNeg then none else
  if (l4 + (2 : Int32)) < 0 ∨ Ln ≤ (l4 + (2 : Int32)).toNatClampNeg then none else
  if (l4 + (3 : Int32)) < 0 ∨ Ln ≤ (l4 + (3 : Int32)).toNatClampNeg then none else
  if (l4 + (4 : Int32)) < 0 ∨ Ln ≤ (l4 + (4 : Int32)).toNatClampNeg then none else
  if (l4 + (5 : Int32)) < 0 ∨ Ln ≤ (l4 + (5 : Int32)).toNatClampNeg then none else
  (F_X12_feed sh f y1.2 94 (xs (l4 + (1 : Int32)).toNatClampNeg) (xs (l4 + (2 : Int32)).toNatClampNeg) (xs (l4 + (3 : Int32)).toNatClampNeg) (xs (l4 + (4 : Int32)).toNatClampNeg) (xs (l4 + (5 : Int32)).toNatClampNeg)).bind fun y2 =>
  if y1.1 = y2.1 then (
    F_L_law_L1234 f xs Ln k23 sh y2.2 l4
  ) else (
    some (0 : Int32)
  )
def F_L_law_L233 (f : Nat) (xs : Nat → Int32) (Ln : Nat) (k23 : List Sh → St → Int32 → Option Int32) : List Sh → St → Int32 → Option Int32 := fun sh S l4 =>
  if (l4 + (1 : Int32)) < 0 ∨ Ln ≤ (l4 + (1 : Int32)).toNatClampNeg then none else
  (F_X8_book sh f S 0 (xs (l4 + (1 : Int32)).toNatClampNeg)).bind fun y1 =>
  if (l4 + (1 : Int32)) < 0 ∨ Ln ≤ (l4 + (1 : Int32)).toNatClampNeg then none else
  (F_X12_book sh f y1.2 94 (xs (l4 + (1 : Int32)).toNatClampNeg)).bind fun y2 =>
  if ¬ (y2.1 = sh ∨ y2.1 = sh ++ bkSh) then none else
  bnd y2.1 fun sh =>
  if y1.1 = y2.2.1 then (
    F_L_law_L1234 f xs Ln k23 sh y2.2.2 l4
  ) else (
    some (0 : Int32)
  )
def F_L_law_L258 (f : Nat) (xs : Nat → Int32) (Ln : Nat) (k23 : List Sh → St → Int32 → Option Int32) : List Sh → St → Int32 → Option Int32 := fun sh S l4 =>
  (F_X8_fault sh f S 0).bind fun y1 =>
  (F_X12_fault sh f S 94).bind fun y2 =>
  if y1 = y2.1 then (
    F_L_law_L1234 f xs Ln k23 sh y2.2 l4
  ) else (
    some (0 : Int32)
  )
def F_L_law_L271 (f : Nat) (xs : Nat → Int32) (Ln : Nat) (k23 : List Sh → St → Int32 → Option Int32) : List Sh → St → Int32 → Option Int32 := fun sh S l4 =>
  (F_X8_where sh f S 0).bind fun y1 =>
  (F_X12_where sh f S 94).bind fun y2 =>
  if y1 = y2.1 then (
    F_L_law_L1234 f xs Ln k23 sh y2.2 l4
  ) else (
    some (0 : Int32)
  )
def F_L_law_L284 (f : Nat) (xs : Nat → Int32) (Ln : Nat) (k23 : List Sh → St → Int32 → Option Int32) : List Sh → St → Int32 → Option Int32 := fun sh S l4 =>
  if (l4 + (1 : Int32)) < 0 ∨ Ln ≤ (l4 + (1 : Int32)).toNatClampNeg then none else
  if (l4 + (2 : Int32)) < 0 ∨ Ln ≤ (l4 + (2 : Int32)).toNatClampNeg then none else
  (F_X8_kind sh f S 0 (xs (l4 + (1 : Int32)).toNatClampNeg) (xs (l4 + (2 : Int32)).toNatClampNeg)).bind fun y1 =>
  if (l4 + (1 : Int32)) < 0 ∨ Ln ≤ (l4 + (1 : Int32)).toNatClampNeg then none else
  if (l4 + (2 : Int32)) < 0 ∨ Ln ≤ (l4 + (2 : Int32)).toNatClampNeg then none else
  (F_X12_kind sh f S 94 (xs (l4 + (1 : Int32)).toNatClampNeg) (xs (l4 + (2 : Int32)).toNatClampNeg)).bind fun y2 =>
  if y1 = y2.1 then (
    F_L_law_L1234 f xs Ln k23 sh y2.2 l4
  ) else (
    some (0 : Int32)
  )
def F_L_law_L321 (f : Nat) (xs : Nat → Int32) (Ln : Nat) (k23 : List Sh → St → Int32 → Option Int32) : List Sh → St → Int32 → Option Int32 := fun sh S l4 =>
  if (l4 + (1 : Int32)) < 0 ∨ Ln ≤ (l4 + (1 : Int32)).toNatClampNeg then none else
  if (l4 + (2 : Int32)) < 0 ∨ Ln ≤ (l4 + (2 : Int32)).toNatClampNeg then none else
  (F_X8_rule sh f S 0 (xs (l4 + (1 : Int32)).toNatClampNeg) (xs (l4 + (2 : Int32)).toNatClampNeg)).bind fun y1 =>
  if (l4 + (1 : Int32)) < 0 ∨ Ln ≤ (l4 + (1 : Int32)).toNatClampNeg then none else
  if (l4 + (2 : Int32)) < 0 ∨ Ln ≤ (l4 + (2 : Int32)).toNatClampNeg then none else
  (F_X12_rule sh f S 94 (xs (l4 + (1 : Int32)).toNatClampNeg) (xs (l4 + (2 : Int32)).toNatClampNeg)).bind fun y2 =>
  if y1 = y2.1 then (
    F_L_law_L1234 f xs Ln k23 sh y2.2 l4
  ) else (
    some (0 : Int32)
  )
def F_L_law_L358 (f : Nat) (xs : Nat → Int32) (Ln : Nat) (k23 : List Sh → St → Int32 → Option Int32) : List Sh → St → Int32 → Option Int32 := fun sh S l4 =>
  if (l4 + (1 : Int32)) < 0 ∨ Ln ≤ (l4 + (1 : Int32)).toNatClampNeg then none else
  if (l4 + (2 : Int32)) < 0 ∨ Ln ≤ (l4 + (2 : Int32)).toNatClampNeg then none else
  if (l4 + (3 : Int32)) < 0 ∨ Ln ≤ (l4 + (3 : Int32)).toNatClampNeg then none else
  if (l4 + (4 : Int32)) < 0 ∨ Ln ≤ (l4 + (4 : Int32)).toNatClampNeg then none else
  if (l4 + (5 : Int32)) < 0 ∨ Ln ≤ (l4 + (5 : Int32)).toNatClampNeg then none else
  if (l4 + (6 : Int32)) < 0 ∨ Ln ≤ (l4 + (6 : Int32)).toNatClampNeg then none else
  (F_X8_meeting sh f S 0 (xs (l4 + (1 : Int32)).toNatClampNeg) (xs (l4 + (2 : Int32)).toNatClampNeg) (xs (l4 + (3 : Int32)).toNatClampNeg) (xs (l4 + (4 : Int32)).toNatClampNeg) (xs (l4 + (5 : Int32)).toNatClampNeg) (xs (l4 + (6 : Int32)).toNatClampNeg)).bind fun y1 =>
  if (l4 + (1 : Int32)) < 0 ∨ Ln ≤ (l4 + (1 : Int32)).toNatClampNeg then none else
  if (l4 + (2 : Int32)) < 0 ∨ Ln ≤ (l4 + (2 : Int32)).toNatClampNeg then none else
  if (l4 + (3 : Int32)) < 0 ∨ Ln ≤ (l4 + (3 : Int32)).toNatClampNeg then none else
  if (l4 + (4 : Int32)) < 0 ∨ Ln ≤ (l4 + (4 : Int32)).toNatClampNeg then none else
  if (l4 + (5 : Int32)) < 0 ∨ Ln ≤ (l4 + (5 : Int32)).toNatClampNeg then none else
  if (l4 + (6 : Int32)) < 0 ∨ Ln ≤ (l4 + (6 : Int32)).toNatClampNeg then none else
  (F_X12_meeting sh f y1.2 94 (xs (l4 + (1 : Int32)).toNatClampNeg) (xs (l4 + (2 : Int32)).toNatClampNeg) (xs (l4 + (3 : Int32)).toNatClampNeg) (xs (l4 + (4 : Int32)).toNatClampNeg) (xs (l4 + (5 : Int32)).toNatClampNeg) (xs (l4 + (6 : Int32)).toNatClampNeg)).bind fun y2 =>
  if y1.1 = y2.1 then (
    F_L_law_L1234 f xs Ln k23 sh y2.2 l4
  ) else (
    some (0 : Int32)
  )
def F_L_law_L445 (f : Nat) (xs : Nat → Int32) (Ln : Nat) (k23 : List Sh → St → Int32 → Option Int32) : List Sh → St → Int32 → Option Int32 := fun sh S l4 =>
  if (l4 + (1 : Int32)) < 0 ∨ Ln ≤ (l4 + (1 : Int32)).toNatClampNeg then none else
  (F_X8_drawings sh f S 0 (xs (l4 + (1 : Int32)).toNatClampNeg)).bind fun y1 =>
  if (l4 + (1 : Int32)) < 0 ∨ Ln ≤ (l4 + (1 : Int32)).toNatClampNeg then none else
  (F_X12_drawings sh f y1.2 94 (xs (l4 + (1 : Int32)).toNatClampNeg)).bind fun y2 =>
  if y1.1 = y2.1 then (
    F_L_law_L1234 f xs Ln k23 sh y2.2 l4
  ) else (
    some (0 : Int32)
  )
def F_L_law_L470 (f : Nat) (xs : Nat → Int32) (Ln : Nat) (k23 : List Sh → St → Int32 → Option Int32) : List Sh → St → Int32 → Option Int32 := fun sh S l4 =>
  if (l4 + (1 : Int32)) < 0 ∨ Ln ≤ (l4 + (1 : Int32)).toNatClampNeg then none else
  if (l4 + (2 : Int32)) < 0 ∨ Ln ≤ (l4 + (2 : Int32)).toNatClampNeg then none else
  (F_X8_drawing sh f S 0 (xs (l4 + (1 : Int32)).toNatClampNeg) (xs (l4 + (2 : Int32)).toNatClampNeg)).bind fun y1 =>
  if (l4 + (1 : Int32)) < 0 ∨ Ln ≤ (l4 + (1 : Int32)).toNatClampNeg then none else
  if (l4 + (2 : Int32)) < 0 ∨ Ln ≤ (l4 + (2 : Int32)).toNatClampNeg then none else
  (F_X12_drawing sh f S 94 (xs (l4 + (1 : Int32)).toNatClampNeg) (xs (l4 + (2 : Int32)).toNatClampNeg)).bind fun y2 =>
  if y1 = y2.1 then (
    F_L_law_L1234 f xs Ln k23 sh y2.2 l4
  ) else (
    some (0 : Int32)
  )
def F_L_law_L507 (f : Nat) (xs : Nat → Int32) (Ln : Nat) (k23 : List Sh → St → Int32 → Option Int32) : List Sh → St → Int32 → Option Int32 := fun sh S l4 =>
  if (l4 + (1 : Int32)) < 0 ∨ Ln ≤ (l4 + (1 : Int32)).toNatClampNeg then none else
  if (l4 + (2 : Int32)) < 0 ∨ Ln ≤ (l4 + (2 : Int32)).toNatClampNeg then none else
  (F_X8_point sh f S 0 (xs (l4 + (1 : Int32)).toNatClampNeg) (xs (l4 + (2 : Int32)).toNatClampNeg)).bind fun y1 =>
  if (l4 + (1 : Int32)) < 0 ∨ Ln ≤ (l4 + (1 : Int32)).toNatClampNeg then none else
  if (l4 + (2 : Int32)) < 0 ∨ Ln ≤ (l4 + (2 : Int32)).toNatClampNeg then none else
  (F_X12_point sh f S 94 (xs (l4 + (1 : Int32)).toNatClampNeg) (xs (l4 + (2 : Int32)).toNatClampNeg)).bind fun y2 =>
  if y1 = y2.1 then (
    F_L_law_L1234 f xs Ln k23 sh y2.2 l4
  ) else (
    some (0 : Int32)
  )
def F_L_law_L544 (f : Nat) (xs : Nat → Int32) (Ln : Nat) (k23 : List Sh → St → Int32 → Option Int32) : List Sh → St → Int32 → Option Int32 := fun sh S l4 =>
  if (l4 + (1 : Int32)) < 0 ∨ Ln ≤ (l4 + (1 : Int32)).toNatClampNeg then none else
  if (l4 + (2 : Int32)) < 0 ∨ Ln ≤ (l4 + (2 : Int32)).toNatClampNeg then none else
  (F_X8_joined sh f S 0 (xs (l4 + (1 : Int32)).toNatClampNeg) (xs (l4 + (2 : Int32)).toNatClampNeg)).bind fun y1 =>
  if (l4 + (1 : Int32)) < 0 ∨ Ln ≤ (l4 + (1 : Int32)).toNatClampNeg then none else
  if (l4 + (2 : Int32)) < 0 ∨ Ln ≤ (l4 + (2 : Int32)).toNatClampNeg then none else
  (F_X12_joined sh f S 94 (xs (l4 + (1 : Int32)).toNatClampNeg) (xs (l4 + (2 : Int32)).toNatClampNeg)).bind fun y2 =>
  if y1 = y2.1 then (
    F_L_law_L1234 f xs Ln k23 sh y2.2 l4
  ) else (
    some (0 : Int32)
  )
def F_L_law_L581 (f : Nat) (xs : Nat → Int32) (Ln : Nat) (k23 : List Sh → St → Int32 → Option Int32) : List Sh → St → Int32 → Option Int32 := fun sh S l4 =>
  if (l4 + (1 : Int32)) < 0 ∨ Ln ≤ (l4 + (1 : Int32)).toNatClampNeg then none else
  if (l4 + (2 : Int32)) < 0 ∨ Ln ≤ (l4 + (2 : Int32)).toNatClampNeg then none else
  (F_L_side sh f S 0 (xs (l4 + (1 : Int32)).toNatClampNeg) (xs (l4 + (2 : Int32)).toNatClampNeg) 158).bind fun y1 =>
  if ¬ (y1.1 = sh ∨ y1.1 = sh ++ exSh) then none else
  bnd y1.1 fun sh =>
  bnd y1.2.1 fun x2 =>
  if (l4 + (1 : Int32)) < 0 ∨ Ln ≤ (l4 + (1 : Int32)).toNatClampNeg then none else
  if (l4 + (2 : Int32)) < 0 ∨ Ln ≤ (l4 + (2 : Int32)).toNatClampNeg then none else
  (F_X12_side sh f y1.2.2 94 (xs (l4 + (1 : Int32)).toNatClampNeg) (xs (l4 + (2 : Int32)).toNatClampNeg)).bind fun y3 =>
  bnd y3.1 fun x4 =>
  (F_X12_thrown sh f y3.2 94).bind fun y5 =>
  if y5 = x2 then (
    if x2 = 0 then (
      if (0 : Int32) < 0 ∨ 1 ≤ (0 : Int32).toNatClampNeg then none else
      if (lg_cmp (sL y3.2 158 (0 : Int32).toNatClampNeg) x4.toInt64) = 0 then (
        F_L_law_L1234 f xs Ln k23 sh y3.2 l4
      ) else (
        some (0 : Int32)
      )
    ) else (
      F_L_law_L1234 f xs Ln k23 sh y3.2 l4
    )
  ) else (
    some (0 : Int32)
  )
def F_L_law_L649 (f : Nat) (xs : Nat → Int32) (Ln : Nat) (k23 : List Sh → St → Int32 → Option Int32) : List Sh → St → Int32 → Option Int32 := fun sh S l4 =>
  (F_X8_pairings sh f S 0).bind fun y1 =>
  (F_X12_pairings sh f S 94).bind fun y2 =>
  if y1 = y2.1 then (
    F_L_law_L1234 f xs Ln k23 sh y2.2 l4
  ) else (
    some (0 : Int32)
  )
def F_L_law_L662 (f : Nat) (xs : Nat → Int32) (Ln : Nat) (k23 : List Sh → St → Int32 → Option Int32) : List Sh → St → Int32 → Option Int32 := fun sh S l4 =>
  if (l4 + (1 : Int32)) < 0 ∨ Ln ≤ (l4 + (1 : Int32)).toNatClampNeg then none else
  if (l4 + (2 : Int32)) < 0 ∨ Ln ≤ (l4 + (2 : Int32)).toNatClampNeg then none else
  if (l4 + (3 : Int32)) < 0 ∨ Ln ≤ (l4 + (3 : Int32)).toNatClampNeg then none else
  if (l4 + (4 : Int32)) < 0 ∨ Ln ≤ (l4 + (4 : Int32)).toNatClampNeg then none else
  if (l4 + (5 : Int32)) < 0 ∨ Ln ≤ (l4 + (5 : Int32)).toNatClampNeg then none else
  if (l4 + (6 : Int32)) < 0 ∨ Ln ≤ (l4 + (6 : Int32)).toNatClampNeg then none else
  if (l4 + (7 : Int32)) < 0 ∨ Ln ≤ (l4 + (7 : Int32)).toNatClampNeg then none else
  (F_X8_same sh f S 0 (xs (l4 + (1 : Int32)).toNatClampNeg) (xs (l4 + (2 : Int32)).toNatClampNeg) (xs (l4 + (3 : Int32)).toNatClampNeg) (xs (l4 + (4 : Int32)).toNatClampNeg) (xs (l4 + (5 : Int32)).toNatClampNeg) (xs (l4 + (6 : Int32)).toNatClampNeg) (xs (l4 + (7 : Int32)).toNatClampNeg)).bind fun y1 =>
  if (l4 + (1 : Int32)) < 0 ∨ Ln ≤ (l4 + (1 : Int32)).toNatClampNeg then none else
  if (l4 + (2 : Int32)) < 0 ∨ Ln ≤ (l4 + (2 : Int32)).toNatClampNeg then none else
  if (l4 + (3 : Int32)) < 0 ∨ Ln ≤ (l4 + (3 : Int32)).toNatClampNeg then none else
  if (l4 + (4 : Int32)) < 0 ∨ Ln ≤ (l4 + (4 : Int32)).toNatClampNeg then none else
  if (l4 + (5 : Int32)) < 0 ∨ Ln ≤ (l4 + (5 : Int32)).toNatClampNeg then none else
  if (l4 + (6 : Int32)) < 0 ∨ Ln ≤ (l4 + (6 : Int32)).toNatClampNeg then none else
  if (l4 + (7 : Int32)) < 0 ∨ Ln ≤ (l4 + (7 : Int32)).toNatClampNeg then none else
  (F_X12_same sh f y1.2 94 (xs (l4 + (1 : Int32)).toNatClampNeg) (xs (l4 + (2 : Int32)).toNatClampNeg) (xs (l4 + (3 : Int32)).toNatClampNeg) (xs (l4 + (4 : Int32)).toNatClampNeg) (xs (l4 + (5 : Int32)).toNatClampNeg) (xs (l4 + (6 : Int32)).toNatClampNeg) (xs (l4 + (7 : Int32)).toNatClampNeg)).bind fun y2 =>
  if y1.1 = y2.1 then (
    F_L_law_L1234 f xs Ln k23 sh y2.2 l4
  ) else (
    some (0 : Int32)
  )
def F_L_law_L763 (f : Nat) (xs : Nat → Int32) (Ln : Nat) (k23 : List Sh → St → Int32 → Option Int32) : List Sh → St → Int32 → Option Int32 := fun sh S l4 =>
  if (l4 + (1 : Int32)) < 0 ∨ Ln ≤ (l4 + (1 : Int32)).toNatClampNeg then none else
  if (l4 + (2 : Int32)) < 0 ∨ Ln ≤ (l4 + (2 : Int32)).toNatClampNeg then none else
  if (l4 + (3 : Int32)) < 0 ∨ Ln ≤ (l4 + (3 : Int32)).toNatClampNeg then none else
  if (l4 + (4 : Int32)) < 0 ∨ Ln ≤ (l4 + (4 : Int32)).toNatClampNeg then none else
  if (xs (l4 + (4 : Int32)).toNatClampNeg) = 0 then (
    (F_X8_sum sh f S 0 (xs (l4 + (1 : Int32)).toNatClampNeg) (xs (l4 + (2 : Int32)).toNatClampNeg) (xs (l4 + (3 : Int32)).toNatClampNeg) (0 : Int32)).bind fun y1 =>
    if (l4 + (1 : Int32)) < 0 ∨ Ln ≤ (l4 + (1 : Int32)).toNatClampNeg then none else
    if (l4 + (2 : Int32)) < 0 ∨ Ln ≤ (l4 + (2 : Int32)).toNatClampNeg then none else
    if (l4 + (3 : Int32)) < 0 ∨ Ln ≤ (l4 + (3 : Int32)).toNatClampNeg then none else
    if (l4 + (4 : Int32)) < 0 ∨ Ln ≤ (l4 + (4 : Int32)).toNatClampNeg then none else
    if (xs (l4 + (4 : Int32)).toNatClampNeg) = 0 then (
      (F_X12_sum sh f y1.2 94 (xs (l4 + (1 : Int32)).toNatClampNeg) (xs (l4 + (2 : Int32)).toNatClampNeg) (xs (l4 + (3 : Int32)).toNatClampNeg) (0 : Int32)).bind fun y2 =>
      if (lg_cmp y1.1 y2.1) = 0 then (
        F_L_law_L1234 f xs Ln k23 sh y2.2 l4
      ) else (
        some (0 : Int32)
      )
    ) else (
      (F_X12_sum sh f y1.2 94 (xs (l4 + (1 : Int32)).toNatClampNeg) (xs (l4 + (2 : Int32)).toNatClampNeg) (xs (l4 + (3 : Int32)).toNatClampNeg) (1 : Int32)).bind fun y3 =>
      if (lg_cmp y1.1 y3.1) = 0 then (
        F_L_law_L1234 f xs Ln k23 sh y3.2 l4
      ) else (
        some (0 : Int32)
      )
    )
  ) else (
    (F_X8_sum sh f S 0 (xs (l4 + (1 : Int32)).toNatClampNeg) (xs (l4 + (2 : Int32)).toNatClampNeg) (xs (l4 + (3 : Int32)).toNatClampNeg) (1 : Int32)).bind fun y4 =>
    if (l4 + (1 : Int32)) < 0 ∨ Ln ≤ (l4 + (1 : Int32)).toNatClampNeg then none else
    if (l4 + (2 : Int32)) < 0 ∨ Ln ≤ (l4 + (2 : Int32)).toNatClampNeg then none else
    if (l4 + (3 : Int32)) < 0 ∨ Ln ≤ (l4 + (3 : Int32)).toNatClampNeg then none else
    if (l4 + (4 : Int32)) < 0 ∨ Ln ≤ (l4 + (4 : Int32)).toNatClampNeg then none else
    if (xs (l4 + (4 : Int32)).toNatClampNeg) = 0 then (
      (F_X12_sum sh f y4.2 94 (xs (l4 + (1 : Int32)).toNatClampNeg) (xs (l4 + (2 : Int32)).toNatClampNeg) (xs (l4 + (3 : Int32)).toNatClampNeg) (0 : Int32)).bind fun y5 =>
      if (lg_cmp y4.1 y5.1) = 0 then (
        F_L_law_L1234 f xs Ln k23 sh y5.2 l4
      ) else (
        some (0 : Int32)
      )
    ) else (
      (F_X12_sum sh f y4.2 94 (xs (l4 + (1 : Int32)).toNatClampNeg) (xs (l4 + (2 : Int32)).toNatClampNeg) (xs (l4 + (3 : Int32)).toNatClampNeg) (1 : Int32)).bind fun y6 =>
      if (lg_cmp y4.1 y6.1) = 0 then (
        F_L_law_L1234 f xs Ln k23 sh y6.2 l4
      ) else (
        some (0 : Int32)
      )
    )
  )
def F_L_law_L841 (f : Nat) (xs : Nat → Int32) (Ln : Nat) (k23 : List Sh → St → Int32 → Option Int32) : List Sh → St → Int32 → Option Int32 := fun sh S l4 =>
  if (l4 + (1 : Int32)) < 0 ∨ Ln ≤ (l4 + (1 : Int32)).toNatClampNeg then none else
  if (l4 + (2 : Int32)) < 0 ∨ Ln ≤ (l4 + (2 : Int32)).toNatClampNeg then none else
  if (l4 + (3 : Int32)) < 0 ∨ Ln ≤ (l4 + (3 : Int32)).toNatClampNeg then none else
  if (l4 + (4 : Int32)) < 0 ∨ Ln ≤ (l4 + (4 : Int32)).toNatClampNeg then none else
  if (xs (l4 + (4 : Int32)).toNatClampNeg) = 0 then (
    (F_X8_byPairings sh f S 0 (xs (l4 + (1 : Int32)).toNatClampNeg) (xs (l4 + (2 : Int32)).toNatClampNeg) (xs (l4 + (3 : Int32)).toNatClampNeg) (0 : Int32)).bind fun y1 =>
    if (l4 + (1 : Int32)) < 0 ∨ Ln ≤ (l4 + (1 : Int32)).toNatClampNeg then none else
    if (l4 + (2 : Int32)) < 0 ∨ Ln ≤ (l4 + (2 : Int32)).toNatClampNeg then none else
    if (l4 + (3 : Int32)) < 0 ∨ Ln ≤ (l4 + (3 : Int32)).toNatClampNeg then none else
    if (l4 + (4 : Int32)) < 0 ∨ Ln ≤ (l4 + (4 : Int32)).toNatClampNeg then none else
    if (xs (l4 + (4 : Int32)).toNatClampNeg) = 0 then (
      (F_X12_byPairings sh f y1.2 94 (xs (l4 + (1 : Int32)).toNatClampNeg) (xs (l4 + (2 : Int32)).toNatClampNeg) (xs (l4 + (3 : Int32)).toNatClampNeg) (0 : Int32)).bind fun y2 =>
      if (lg_cmp y1.1 y2.1) = 0 then (
        F_L_law_L1234 f xs Ln k23 sh y2.2 l4
      ) else (
        some (0 : Int32)
      )
    ) else (
      (F_X12_byPairings sh f y1.2 94 (xs (l4 + (1 : Int32)).toNatClampNeg) (xs (l4 + (2 : Int32)).toNatClampNeg) (xs (l4 + (3 : Int32)).toNatClampNeg) (1 : Int32)).bind fun y3 =>
      if (lg_cmp y1.1 y3.1) = 0 then (
        F_L_law_L1234 f xs Ln k23 sh y3.2 l4
      ) else (
        some (0 : Int32)
      )
    )
  ) else (
    (F_X8_byPairings sh f S 0 (xs (l4 + (1 : Int32)).toNatClampNeg) (xs (l4 + (2 : Int32)).toNatClampNeg) (xs (l4 + (3 : Int32)).toNatClampNeg) (1 : Int32)).bind fun y4 =>
    if (l4 + (1 : Int32)) < 0 ∨ Ln ≤ (l4 + (1 : Int32)).toNatClampNeg then none else
    if (l4 + (2 : Int32)) < 0 ∨ Ln ≤ (l4 + (2 : Int32)).toNatClampNeg then none else
    if (l4 + (3 : Int32)) < 0 ∨ Ln ≤ (l4 + (3 : Int32)).toNatClampNeg then none else
    if (l4 + (4 : Int32)) < 0 ∨ Ln ≤ (l4 + (4 : Int32)).toNatClampNeg then none else
    if (xs (l4 + (4 : Int32)).toNatClampNeg) = 0 then (
      (F_X12_byPairings sh f y4.2 94 (xs (l4 + (1 : Int32)).toNatClampNeg) (xs (l4 + (2 : Int32)).toNatClampNeg) (xs (l4 + (3 : Int32)).toNatClampNeg) (0 : Int32)).bind fun y5 =>
      if (lg_cmp y4.1 y5.1) = 0 then (
        F_L_law_L1234 f xs Ln k23 sh y5.2 l4
      ) else (
        some (0 : Int32)
      )
    ) else (
      (F_X12_byPairings sh f y4.2 94 (xs (l4 + (1 : Int32)).toNatClampNeg) (xs (l4 + (2 : Int32)).toNatClampNeg) (xs (l4 + (3 : Int32)).toNatClampNeg) (1 : Int32)).bind fun y6 =>
      if (lg_cmp y4.1 y6.1) = 0 then (
        F_L_law_L1234 f xs Ln k23 sh y6.2 l4
      ) else (
        some (0 : Int32)
      )
    )
  )
def F_L_law_L919 (f : Nat) (xs : Nat → Int32) (Ln : Nat) (k23 : List Sh → St → Int32 → Option Int32) : List Sh → St → Int32 → Option Int32 := fun sh S l4 =>
  if (l4 + (1 : Int32)) < 0 ∨ Ln ≤ (l4 + (1 : Int32)).toNatClampNeg then none else
  if (l4 + (2 : Int32)) < 0 ∨ Ln ≤ (l4 + (2 : Int32)).toNatClampNeg then none else
  (F_X8_number sh f S 0 (xs (l4 + (1 : Int32)).toNatClampNeg) (xs (l4 + (2 : Int32)).toNatClampNeg)).bind fun y1 =>
  if (l4 + (1 : Int32)) < 0 ∨ Ln ≤ (l4 + (1 : Int32)).toNatClampNeg then none else
  if (l4 + (2 : Int32)) < 0 ∨ Ln ≤ (l4 + (2 : Int32)).toNatClampNeg then none else
  (F_X12_number sh f y1.2 94 (xs (l4 + (1 : Int32)).toNatClampNeg) (xs (l4 + (2 : Int32)).toNatClampNeg)).bind fun y2 =>
  if y1.1 = y2.1 then (
    F_L_law_L1234 f xs Ln k23 sh y2.2 l4
  ) else (
    some (0 : Int32)
  )
def F_L_law_L956 (f : Nat) (xs : Nat → Int32) (Ln : Nat) (k23 : List Sh → St → Int32 → Option Int32) : List Sh → St → Int32 → Option Int32 := fun sh S l4 =>
  if (l4 + (1 : Int32)) < 0 ∨ Ln ≤ (l4 + (1 : Int32)).toNatClampNeg then none else
  if (l4 + (2 : Int32)) < 0 ∨ Ln ≤ (l4 + (2 : Int32)).toNatClampNeg then none else
  (F_X8_letter sh f S 0 (xs (l4 + (1 : Int32)).toNatClampNeg) (xs (l4 + (2 : Int32)).toNatClampNeg)).bind fun y1 =>
  if (l4 + (1 : Int32)) < 0 ∨ Ln ≤ (l4 + (1 : Int32)).toNatClampNeg then none else
  if (l4 + (2 : Int32)) < 0 ∨ Ln ≤ (l4 + (2 : Int32)).toNatClampNeg then none else
  (F_X12_letter sh f y1.2 94 (xs (l4 + (1 : Int32)).toNatClampNeg) (xs (l4 + (2 : Int32)).toNatClampNeg)).bind fun y2 =>
  if y1.1 = y2.1 then (
    F_L_law_L1234 f xs Ln k23 sh y2.2 l4
  ) else (
    some (0 : Int32)
  )
def F_L_law_L993 (f : Nat) (xs : Nat → Int32) (Ln : Nat) (k23 : List Sh → St → Int32 → Option Int32) : List Sh → St → Int32 → Option Int32 := fun sh S l4 =>
  if (l4 + (1 : Int32)) < 0 ∨ Ln ≤ (l4 + (1 : Int32)).toNatClampNeg then none else
  (F_X8_at sh f S 0 (xs (l4 + (1 : Int32)).toNatClampNeg)).bind fun y1 =>
  if (l4 + (1 : Int32)) < 0 ∨ Ln ≤ (l4 + (1 : Int32)).toNatClampNeg then none else
  (F_X12_at sh f y1.2 94 (xs (l4 + (1 : Int32)).toNatClampNeg)).bind fun y2 =>
  if y1.1 = y2.1 then (
    F_L_law_L1234 f xs Ln k23 sh y2.2 l4
  ) else (
    some (0 : Int32)
  )
def F_L_law_L1018 (f : Nat) (xs : Nat → Int32) (Ln : Nat) (k23 : List Sh → St → Int32 → Option Int32) : List Sh → St → Int32 → Option Int32 := fun sh S l4 =>
  if (l4 + (1 : Int32)) < 0 ∨ Ln ≤ (l4 + (1 : Int32)).toNatClampNeg then none else
  if (l4 + (2 : Int32)) < 0 ∨ Ln ≤ (l4 + (2 : Int32)).toNatClampNeg then none else
  if (l4 + (3 : Int32)) < 0 ∨ Ln ≤ (l4 + (3 : Int32)).toNatClampNeg then none else
  (F_X8_parted sh f S 0 (xs (l4 + (1 : Int32)).toNatClampNeg) (xs (l4 + (2 : Int32)).toNatClampNeg) (xs (l4 + (3 : Int32)).toNatClampNeg)).bind fun y1 =>
  if (l4 + (1 : Int32)) < 0 ∨ Ln ≤ (l4 + (1 : Int32)).toNatClampNeg then none else
  if (l4 + (2 : Int32)) < 0 ∨ Ln ≤ (l4 + (2 : Int32)).toNatClampNeg then none else
  if (l4 + (3 : Int32)) < 0 ∨ Ln ≤ (l4 + (3 : Int32)).toNatClampNeg then none else
  (F_X12_parted sh f y1.2 94 (xs (l4 + (1 : Int32)).toNatClampNeg) (xs (l4 + (2 : Int32)).toNatClampNeg) (xs (l4 + (3 : Int32)).toNatClampNeg)).bind fun y2 =>
  if y1.1 = y2.1 then (
    F_L_law_L1234 f xs Ln k23 sh y2.2 l4
  ) else (
    some (0 : Int32)
  )
def F_L_law_L1067 (f : Nat) (xs : Nat → Int32) (Ln : Nat) (k23 : List Sh → St → Int32 → Option Int32) : List Sh → St → Int32 → Option Int32 := fun sh S l4 =>
  if (l4 + (1 : Int32)) < 0 ∨ Ln ≤ (l4 + (1 : Int32)).toNatClampNeg then none else
  if (l4 + (2 : Int32)) < 0 ∨ Ln ≤ (l4 + (2 : Int32)).toNatClampNeg then none else
  if (l4 + (3 : Int32)) < 0 ∨ Ln ≤ (l4 + (3 : Int32)).toNatClampNeg then none else
  (F_X8_whole sh f S 0 (xs (l4 + (1 : Int32)).toNatClampNeg) (xs (l4 + (2 : Int32)).toNatClampNeg) (xs (l4 + (3 : Int32)).toNatClampNeg)).bind fun y1 =>
  if (l4 + (1 : Int32)) < 0 ∨ Ln ≤ (l4 + (1 : Int32)).toNatClampNeg then none else
  if (l4 + (2 : Int32)) < 0 ∨ Ln ≤ (l4 + (2 : Int32)).toNatClampNeg then none else
  if (l4 + (3 : Int32)) < 0 ∨ Ln ≤ (l4 + (3 : Int32)).toNatClampNeg then none else
  (F_X12_whole sh f y1.2 94 (xs (l4 + (1 : Int32)).toNatClampNeg) (xs (l4 + (2 : Int32)).toNatClampNeg) (xs (l4 + (3 : Int32)).toNatClampNeg)).bind fun y2 =>
  if y1.1 = y2.1 then (
    F_L_law_L1234 f xs Ln k23 sh y2.2 l4
  ) else (
    some (0 : Int32)
  )
def F_L_law_L1116 (f : Nat) (xs : Nat → Int32) (Ln : Nat) (k23 : List Sh → St → Int32 → Option Int32) : List Sh → St → Int32 → Option Int32 := fun sh S l4 =>
  if (l4 + (1 : Int32)) < 0 ∨ Ln ≤ (l4 + (1 : Int32)).toNatClampNeg then none else
  if (xs (l4 + (1 : Int32)).toNatClampNeg) = 0 then (
    (F_X8_worth sh f S 0 (0 : Int32)).bind fun y1 =>
    if (l4 + (1 : Int32)) < 0 ∨ Ln ≤ (l4 + (1 : Int32)).toNatClampNeg then none else
    if (xs (l4 + (1 : Int32)).toNatClampNeg) = 0 then (
      (F_X12_worth sh f S 94 (0 : Int32)).bind fun y2 =>
      if (lg_cmp y1 y2.1) = 0 then (
        F_L_law_L1234 f xs Ln k23 sh y2.2 l4
      ) else (
        some (0 : Int32)
      )
    ) else (
      (F_X12_worth sh f S 94 (1 : Int32)).bind fun y3 =>
      if (lg_cmp y1 y3.1) = 0 then (
        F_L_law_L1234 f xs Ln k23 sh y3.2 l4
      ) else (
        some (0 : Int32)
      )
    )
  ) else (
    (F_X8_worth sh f S 0 (1 : Int32)).bind fun y4 =>
    if (l4 + (1 : Int32)) < 0 ∨ Ln ≤ (l4 + (1 : Int32)).toNatClampNeg then none else
    if (xs (l4 + (1 : Int32)).toNatClampNeg) = 0 then (
      (F_X12_worth sh f S 94 (0 : Int32)).bind fun y5 =>
      if (lg_cmp y4 y5.1) = 0 then (
        F_L_law_L1234 f xs Ln k23 sh y5.2 l4
      ) else (
        some (0 : Int32)
      )
    ) else (
      (F_X12_worth sh f S 94 (1 : Int32)).bind fun y6 =>
      if (lg_cmp y4 y6.1) = 0 then (
        F_L_law_L1234 f xs Ln k23 sh y6.2 l4
      ) else (
        some (0 : Int32)
      )
    )
  )
def F_L_law_L1158 (f : Nat) (xs : Nat → Int32) (Ln : Nat) (k23 : List Sh → St → Int32 → Option Int32) : List Sh → St → Int32 → Option Int32 := fun sh S l4 =>
  if (l4 + (1 : Int32)) < 0 ∨ Ln ≤ (l4 + (1 : Int32)).toNatClampNeg then none else
  (F_X8_rest sh f S 0 (xs (l4 + (1 : Int32)).toNatClampNeg)).bind fun y1 =>
  if (l4 + (1 : Int32)) < 0 ∨ Ln ≤ (l4 + (1 : Int32)).toNatClampNeg then none else
  (F_X12_rest sh f S 94 (xs (l4 + (1 : Int32)).toNatClampNeg)).bind fun y2 =>
  if y1 = y2.1 then (
    F_L_law_L1234 f xs Ln k23 sh y2.2 l4
  ) else (
    some (0 : Int32)
  )
def F_L_law_L1183 (f : Nat) (xs : Nat → Int32) (Ln : Nat) (k23 : List Sh → St → Int32 → Option Int32) : List Sh → St → Int32 → Option Int32 := fun sh S l4 =>
  (F_X8_pole sh f S 0).bind fun y1 =>
  (F_X12_pole sh f S 94).bind fun y2 =>
  if y1 = y2.1 then (
    F_L_law_L1234 f xs Ln k23 sh y2.2 l4
  ) else (
    some (0 : Int32)
  )
def F_L_law_L1196 (f : Nat) (xs : Nat → Int32) (Ln : Nat) (k23 : List Sh → St → Int32 → Option Int32) : List Sh → St → Int32 → Option Int32 := fun sh S l4 =>
  if (l4 + (1 : Int32)) < 0 ∨ Ln ≤ (l4 + (1 : Int32)).toNatClampNeg then none else
  (F_X8_count sh f S 0 (xs (l4 + (1 : Int32)).toNatClampNeg)).bind fun y1 =>
  if (l4 + (1 : Int32)) < 0 ∨ Ln ≤ (l4 + (1 : Int32)).toNatClampNeg then none else
  (F_X12_count sh f S 94 (xs (l4 + (1 : Int32)).toNatClampNeg)).bind fun y2 =>
  if y1 = y2.1 then (
    F_L_law_L1234 f xs Ln k23 sh y2.2 l4
  ) else (
    some (0 : Int32)
  )
def F_L_law_L1221 (f : Nat) (xs : Nat → Int32) (Ln : Nat) (k23 : List Sh → St → Int32 → Option Int32) : List Sh → St → Int32 → Option Int32 := fun sh S l4 =>
  (F_X8_trouble sh f S 0).bind fun y1 =>
  (F_X12_trouble sh f S 94).bind fun y2 =>
  if y1 = y2.1 then (
    F_L_law_L1234 f xs Ln k23 sh y2.2 l4
  ) else (
    some (0 : Int32)
  )
def F_L_law_L23 (f : Nat) (xs : Nat → Int32) (Ln : Nat) : Nat → List Sh → St → Int32 → Option Int32
  | 0, _, _, _ => none
  | n + 1, sh, S, l4 =>
    if ((Int32.ofNat Ln) - (8 : Int32)) < l4 then (
      some (1 : Int32)
    ) else (
      if l4 < 0 ∨ Ln ≤ l4.toNatClampNeg then none else
      if ((xs l4.toNatClampNeg) &&& (31 : Int32)) = (0 : Int32) then (
        F_L_law_L160 f xs Ln (F_L_law_L23 f xs Ln n) sh S l4
      ) else (
      if ((xs l4.toNatClampNeg) &&& (31 : Int32)) = (1 : Int32) then (
        F_L_law_L233 f xs Ln (F_L_law_L23 f xs Ln n) sh S l4
      ) else (
      if ((xs l4.toNatClampNeg) &&& (31 : Int32)) = (2 : Int32) then (
        F_L_law_L258 f xs Ln (F_L_law_L23 f xs Ln n) sh S l4
      ) else (
      if ((xs l4.toNatClampNeg) &&& (31 : Int32)) = (3 : Int32) then (
        F_L_law_L271 f xs Ln (F_L_law_L23 f xs Ln n) sh S l4
      ) else (
      if ((xs l4.toNatClampNeg) &&& (31 : Int32)) = (4 : Int32) then (
        F_L_law_L284 f xs Ln (F_L_law_L23 f xs Ln n) sh S l4
      ) else (
      if ((xs l4.toNatClampNeg) &&& (31 : Int32)) = (5 : Int32) then (
        F_L_law_L321 f xs Ln (F_L_law_L23 f xs Ln n) sh S l4
      ) else (
      if ((xs l4.toNatClampNeg) &&& (31 : Int32)) = (6 : Int32) then (
        F_L_law_L358 f xs Ln (F_L_law_L23 f xs Ln n) sh S l4
      ) else (
      if ((xs l4.toNatClampNeg) &&& (31 : Int32)) = (7 : Int32) then (
        F_L_law_L445 f xs Ln (F_L_law_L23 f xs Ln n) sh S l4
      ) else (
      if ((xs l4.toNatClampNeg) &&& (31 : Int32)) = (8 : Int32) then (
        F_L_law_L470 f xs Ln (F_L_law_L23 f xs Ln n) sh S l4
      ) else (
      if ((xs l4.toNatClampNeg) &&& (31 : Int32)) = (9 : Int32) then (
        F_L_law_L507 f xs Ln (F_L_law_L23 f xs Ln n) sh S l4
      ) else (
      if ((xs l4.toNatClampNeg) &&& (31 : Int32)) = (10 : Int32) then (
        F_L_law_L544 f xs Ln (F_L_law_L23 f xs Ln n) sh S l4
      ) else (
      if ((xs l4.toNatClampNeg) &&& (31 : Int32)) = (11 : Int32) then (
        F_L_law_L581 f xs Ln (F_L_law_L23 f xs Ln n) sh S l4
      ) else (
      if ((xs l4.toNatClampNeg) &&& (31 : Int32)) = (12 : Int32) then (
        F_L_law_L649 f xs Ln (F_L_law_L23 f xs Ln n) sh S l4
      ) else (
      if ((xs l4.toNatClampNeg) &&& (31 : Int32)) = (13 : Int32) then (
        F_L_law_L662 f xs Ln (F_L_law_L23 f xs Ln n) sh S l4
      ) else (
      if ((xs l4.toNatClampNeg) &&& (31 : Int32)) = (14 : Int32) then (
        F_L_law_L763 f xs Ln (F_L_law_L23 f xs Ln n) sh S l4
      ) else (
      if ((xs l4.toNatClampNeg) &&& (31 : Int32)) = (15 : Int32) then (
        F_L_law_L841 f xs Ln (F_L_law_L23 f xs Ln n) sh S l4
      ) else (
      if ((xs l4.toNatClampNeg) &&& (31 : Int32)) = (16 : Int32) then (
        F_L_law_L919 f xs Ln (F_L_law_L23 f xs Ln n) sh S l4
      ) else (
      if ((xs l4.toNatClampNeg) &&& (31 : Int32)) = (17 : Int32) then (
        F_L_law_L956 f xs Ln (F_L_law_L23 f xs Ln n) sh S l4
      ) else (
      if ((xs l4.toNatClampNeg) &&& (31 : Int32)) = (18 : Int32) then (
        F_L_law_L993 f xs Ln (F_L_law_L23 f xs Ln n) sh S l4
      ) else (
      if ((xs l4.toNatClampNeg) &&& (31 : Int32)) = (19 : Int32) then (
        F_L_law_L1018 f xs Ln (F_L_law_L23 f xs Ln n) sh S l4
      ) else (
      if ((xs l4.toNatClampNeg) &&& (31 : Int32)) = (20 : Int32) then (
        F_L_law_L1067 f xs Ln (F_L_law_L23 f xs Ln n) sh S l4
      ) else (
      if ((xs l4.toNatClampNeg) &&& (31 : Int32)) = (21 : Int32) then (
        F_L_law_L1116 f xs Ln (F_L_law_L23 f xs Ln n) sh S l4
      ) else (
      if ((xs l4.toNatClampNeg) &&& (31 : Int32)) = (22 : Int32) then (
        F_L_law_L1158 f xs Ln (F_L_law_L23 f xs Ln n) sh S l4
      ) else (
      if ((xs l4.toNatClampNeg) &&& (31 : Int32)) = (23 : Int32) then (
        F_L_law_L1183 f xs Ln (F_L_law_L23 f xs Ln n) sh S l4
      ) else (
      if ((xs l4.toNatClampNeg) &&& (31 : Int32)) = (24 : Int32) then (
        F_L_law_L1196 f xs Ln (F_L_law_L23 f xs Ln n) sh S l4
      ) else (
      if ((xs l4.toNatClampNeg) &&& (31 : Int32)) = (25 : Int32) then (
        F_L_law_L1221 f xs Ln (F_L_law_L23 f xs Ln n) sh S l4
      ) else (
        F_L_law_L1234 f xs Ln (F_L_law_L23 f xs Ln n) sh S l4
      )
      )
      )
      )
      )
      )
      )
      )
      )
      )
      )
      )
      )
      )
      )
      )
      )
      )
      )
      )
      )
      )
      )
      )
      )
      )
    )
