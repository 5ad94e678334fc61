def f_X9_in (a1 a2 a3 : Int32) : Option Int32 :=
  if a1 < a2 then (
    some 0)
  else (
    if a3 < a1 then (
      some 0)
    else (
      some 1))
def f_X9_ones_4 : Nat → Int32 → Int32 → Int32 → Option Int32
  | 0, _, _, _ => none
  | fu + 1, i0, i1, i2 =>
    if i2 = 0 then (
      some i1)
    else (
      xl (i1 + 1) fun v5 =>
      xl (i2 &&& (i2 - 1)) fun v6 =>
      (f_X9_ones_4 fu) i0 v5 v6)
def f_X9_ones (a1 : Int32) : Option Int32 :=
  xl (0 : Int32) fun v7 =>
  xl a1 fun v8 =>
  f_X9_ones_4 xFU a1 v7 v8
def f_X9_tracksOf (a1 : Int32) : Option Int32 :=
  if a1 = 0 then (
    some 1)
  else (
    if a1 = 1 then (
      some 2)
    else (
      some 4))
def f_X9_stripsOf (a1 a2 : Int32) : Option Int32 :=
  if a1 = 0 then (
    some 15)
  else (
    if a1 = 1 then (
      some ((3 : Int32) <<< (((2 * a2) : Int32) &&& 31)))
    else (
      some ((1 : Int32) <<< ((a2 : Int32) &&& 31))))
def f_X9_sideOf (a1 a2 : Int32) : Option Int32 :=
  if a1 = 0 then (
    some 0)
  else (
    if a1 = 1 then (
      some a2)
    else (
      if a1 = 2 then (
        some (a2 - a2 / 2 * 2))
      else (
        some (a2 / 2))))
def f_X9_turned (a1 : Int32) : Option Int32 :=
  some ((((((a1 : Int32) <<< ((3 : Int32) &&& 31)) &&& 8) ||| (((a1 : Int32) <<< ((1 : Int32) &&& 31)) &&& 4)) ||| (((a1 : Int32) >>> ((1 : Int32) &&& 31)) &&& 2)) ||| (((a1 : Int32) >>> ((3 : Int32) &&& 31)) &&& 1))
def f_X9_placeOfSpeed_27 (M : xM) (k2 : Int32 → Int32 → Int32 → Option Int32) (i1 : Int32) (i2 : Int32) (i3 : Int32) : Option Int32 :=
  xl (i3 + 1) fun v3 =>
  k2 i1 i2 v3
def f_X9_placeOfSpeed_2 (M : xM) : Nat → Int32 → Int32 → Int32 → Option Int32
  | 0, _, _, _ => none
  | fu + 1, i1, i2, i3 =>
    if 3 ≤ i3 then (
      some (-1))
    else (
      if i2 ≤ 0 then (
        f_X9_placeOfSpeed_27 M (f_X9_placeOfSpeed_2 M fu) i1 i2 i3)
      else (
        xgd (xin ((3 * i1) + i3) 9) <|
        if (M 155 ((3 * i1) + i3).toNatClampNeg) = i2 then (
          some i3)
        else (
          f_X9_placeOfSpeed_27 M (f_X9_placeOfSpeed_2 M fu) i1 i2 i3)))
def f_X9_placeOfSpeed (M : xM) (a1 a2 : Int32) : Option Int32 :=
  xl (0 : Int32) fun v4 =>
  f_X9_placeOfSpeed_2 M xFU a1 a2 v4
def f_X9_hasSpeed (M : xM) (a1 a2 : Int32) : Option Int32 :=
  xl (64 + (5 * a1)) fun v3 =>
  xgd (xin v3 916) <|
  xb (f_X9_placeOfSpeed M (M 150 v3.toNatClampNeg) a2) fun v4 =>
  xl v4 fun v5 =>
  if v5 < 0 then (
    some 0)
  else (
    xgd (xin (v3 + 1) 916) <|
    if ((((M 150 (v3 + 1).toNatClampNeg) : Int32) >>> ((v5 : Int32) &&& 31)) &&& 1) = 1 then (
      some 1)
    else (
      some 0))
def f_X9_sideOfAll_66 (k19 : Int32 → Int32 → Int32 → Int32 → Int32 → Option Int32) (i0 : Int32) (i1 : Int32) (i2 : Int32) (i3 : Int32) (i4 : Int32) : Option Int32 :=
  xl (i4 + 1) fun v7 =>
  k19 i0 i1 i2 i3 v7
def f_X9_sideOfAll_58 (k19 : Int32 → Int32 → Int32 → Int32 → Int32 → Option Int32) (i0 : Int32) (i1 : Int32) (i2 : Int32) (i3 : Int32) (i4 : Int32) (s0 : Int32) : Option Int32 :=
  xl s0 fun v8 =>
  xb (f_X9_sideOf i0 i4) fun v9 =>
  xl v9 fun v10 =>
  f_X9_sideOfAll_66 k19 i0 i1 v10 v8 i4
def f_X9_sideOfAll_53 (k19 : Int32 → Int32 → Int32 → Int32 → Int32 → Option Int32) (i0 : Int32) (i1 : Int32) (i2 : Int32) (i3 : Int32) (i4 : Int32) : Option Int32 :=
  f_X9_sideOfAll_58 k19 i0 i1 i2 i3 i4 1
def f_X9_sideOfAll_72 (i0 : Int32) (i1 : Int32) (i2 : Int32) (i3 : Int32) (i4 : Int32) : Option Int32 :=
  if i3 = 0 then (
    some (-1))
  else (
    some i2)
def f_X9_sideOfAll_19 : Nat → Int32 → Int32 → Int32 → Int32 → Int32 → Option Int32
  | 0, _, _, _, _, _ => none
  | fu + 1, i0, i1, i2, i3, i4 =>
    if 4 ≤ i4 then (
      f_X9_sideOfAll_72 i0 i1 i2 i3 i4)
    else (
      if i3 = 0 then (
        f_X9_sideOfAll_72 i0 i1 i2 i3 i4)
      else (
        if (((i1 : Int32) >>> ((i4 : Int32) &&& 31)) &&& 1) = 1 then (
          if i2 < 0 then (
            f_X9_sideOfAll_53 (f_X9_sideOfAll_19 fu) i0 i1 i2 i3 i4)
          else (
            xb (f_X9_sideOf i0 i4) fun v11 =>
            if i2 = v11 then (
              f_X9_sideOfAll_53 (f_X9_sideOfAll_19 fu) i0 i1 i2 i3 i4)
            else (
              f_X9_sideOfAll_58 (f_X9_sideOfAll_19 fu) i0 i1 i2 i3 i4 0)))
        else (
          f_X9_sideOfAll_66 (f_X9_sideOfAll_19 fu) i0 i1 i2 i3 i4)))
def f_X9_sideOfAll (a1 a2 : Int32) : Option Int32 :=
  xl (-1 : Int32) fun v12 =>
  xb (f_X9_tracksOf a1) fun v13 =>
  xb (f_X9_in a2 1 (((1 : Int32) <<< ((v13 : Int32) &&& 31)) - 1)) fun v14 =>
  xl v14 fun v15 =>
  xl (0 : Int32) fun v16 =>
  f_X9_sideOfAll_19 xFU a1 a2 v12 v15 v16
def f_X9_readBy_94 (k6 : Int32 → Int32 → Int32 → Int32 → Int32 → Int32 → Option Int32) (i1 : Int32) (i2 : Int32) (i3 : Int32) (i4 : Int32) (i5 : Int32) (i6 : Int32) (i7 : Int32) (i8 : Int32) (i9 : Int32) (s0 : Int32) : Option Int32 :=
  xl s0 fun v8 =>
  xl (i6 + 1) fun v9 =>
  k6 i1 i2 i3 i4 v8 v9
def f_X9_readBy_92 (k6 : Int32 → Int32 → Int32 → Int32 → Int32 → Int32 → Option Int32) (i1 : Int32) (i2 : Int32) (i3 : Int32) (i4 : Int32) (i5 : Int32) (i6 : Int32) (i7 : Int32) (i8 : Int32) (i9 : Int32) : Option Int32 :=
  f_X9_readBy_94 k6 i1 i2 i3 i4 i5 i6 i7 i8 i9 i5
def f_X9_readBy_67 (k6 : Int32 → Int32 → Int32 → Int32 → Int32 → Int32 → Option Int32) (i1 : Int32) (i2 : Int32) (i3 : Int32) (i4 : Int32) (i5 : Int32) (i6 : Int32) (i7 : Int32) (i8 : Int32) (s0 : Int32) : Option Int32 :=
  xl s0 fun v10 =>
  if v10 = 0 then (
    f_X9_readBy_92 k6 i1 i2 i3 i4 i5 i6 i7 i8 v10)
  else (
    xb (f_X9_ones i7) fun v11 =>
    if v11 ≤ i5 then (
      f_X9_readBy_92 k6 i1 i2 i3 i4 i5 i6 i7 i8 v10)
    else (
      xb (f_X9_ones i7) fun v12 =>
      f_X9_readBy_94 k6 i1 i2 i3 i4 i5 i6 i7 i8 v10 v12))
def f_X9_readBy_66 (k6 : Int32 → Int32 → Int32 → Int32 → Int32 → Int32 → Option Int32) (i1 : Int32) (i2 : Int32) (i3 : Int32) (i4 : Int32) (i5 : Int32) (i6 : Int32) (i7 : Int32) (i8 : Int32) : Option Int32 :=
  f_X9_readBy_67 k6 i1 i2 i3 i4 i5 i6 i7 i8 0
def f_X9_readBy_38 (k6 : Int32 → Int32 → Int32 → Int32 → Int32 → Int32 → Option Int32) (i1 : Int32) (i2 : Int32) (i3 : Int32) (i4 : Int32) (i5 : Int32) (i6 : Int32) (i7 : Int32) (s0 : Int32) : Option Int32 :=
  xl s0 fun v13 =>
  xb (f_X9_sideOf i1 i6) fun v14 =>
  if v14 = 0 then (
    xb (f_X9_stripsOf i2 i3) fun v15 =>
    if (v13 &&& (v15 ^^^ (-1))) = 0 then (
      f_X9_readBy_67 k6 i1 i2 i3 i4 i5 i6 i7 v13 1)
    else (
      f_X9_readBy_66 k6 i1 i2 i3 i4 i5 i6 i7 v13))
  else (
    f_X9_readBy_66 k6 i1 i2 i3 i4 i5 i6 i7 v13)
def f_X9_readBy_6 : Nat → Int32 → Int32 → Int32 → Int32 → Int32 → Int32 → Option Int32
  | 0, _, _, _, _, _, _ => none
  | fu + 1, i1, i2, i3, i4, i5, i6 =>
    xb (f_X9_tracksOf i1) fun v16 =>
    if v16 ≤ i6 then (
      some i5)
    else (
      xb (f_X9_stripsOf i1 i6) fun v17 =>
      xl v17 fun v18 =>
      if i4 = 0 then (
        f_X9_readBy_38 (f_X9_readBy_6 fu) i1 i2 i3 i4 i5 i6 v18 v18)
      else (
        xb (f_X9_turned v18) fun v19 =>
        f_X9_readBy_38 (f_X9_readBy_6 fu) i1 i2 i3 i4 i5 i6 v18 v19))
def f_X9_readBy (a1 a2 a3 a4 : Int32) : Option Int32 :=
  xl (0 : Int32) fun v20 =>
  xl (0 : Int32) fun v21 =>
  f_X9_readBy_6 xFU a1 a2 a3 a4 v20 v21
def f_X9_timeOf (M : xM) (a1 a2 : Int32) : Option Int32 :=
  xl (24 + (5 * a1)) fun v2 =>
  xgd (xin (v2 + 3) 916) <|
  xgd (xin (v2 + 1) 916) <|
  if a2 = 0 then none else
  some (((((M 150 (v2 + 3).toNatClampNeg) * (M 150 (v2 + 1).toNatClampNeg)) + a2) - 1) / a2)
def f_X9_playsFor (M : xM) (a1 a2 : Int32) : Option Int32 :=
  xgd (xin ((24 + (5 * a1)) + 1) 916) <|
  if a2 ≤ (M 150 ((24 + (5 * a1)) + 1).toNatClampNeg) then (
    some 1)
  else (
    some 2)
def f_X9_plays_128 : Nat → xM → Int32 → Int32 → Int32 → Int32 → Int32 → Int32 → Int32 → Int32 → Int32 → Option (Int32 × xM)
  | 0, _, _, _, _, _, _, _, _, _, _ => none
  | fu + 1, M, i1, i2, i3, i4, i5, i6, i7, i8, i9 =>
    if 4 ≤ i9 then (
      xgd (xin ((24 + (5 * i1)) + 4) 916) <|
      xb (f_X9_playsFor M i1 i3) fun v6 =>
      xgd (xin ((24 + (5 * i1)) + 4) 916) <| xl (xw M 150 ((24 + (5 * i1)) + 4).toNatClampNeg ((M 150 ((24 + (5 * i1)) + 4).toNatClampNeg) - v6)) fun M7 =>
      xgd (xin ((64 + (5 * i2)) + 4) 916) <|
      xb (f_X9_timeOf M7 i1 i3) fun v8 =>
      xgd (xin ((64 + (5 * i2)) + 4) 916) <| xl (xw M7 150 ((64 + (5 * i2)) + 4).toNatClampNeg ((M7 150 ((64 + (5 * i2)) + 4).toNatClampNeg) - v8)) fun M9 =>
      xgd (xin 7 916) <| xl (xw M9 150 (7 : Int32).toNatClampNeg 0) fun M10 =>
      xgd (xin 4 916) <|
      xgd (xin 4 916) <| xl (xw M10 150 (4 : Int32).toNatClampNeg ((M10 150 (4 : Int32).toNatClampNeg) + 1)) fun M11 =>
      xgd (xin 4 916) <|
      some (((M11 150 (4 : Int32).toNatClampNeg) - 1), M11))
    else (
      xgd (xin i9 4) <|
      xgd (xin ((i8 + 5) + i9) 916) <| xl (xw M 150 ((i8 + 5) + i9).toNatClampNeg (M 157 i9.toNatClampNeg)) fun M12 =>
      xl (i9 + 1) fun v13 =>
      (f_X9_plays_128 fu) M12 i1 i2 i3 i4 i5 i6 i7 i8 v13)
def f_X9_plays_56 (M : xM) (i1 : Int32) (i2 : Int32) (i3 : Int32) (i4 : Int32) (i5 : Int32) (i6 : Int32) (i7 : Int32) : Option (Int32 × xM) :=
  xgd (xin 4 916) <|
  xl (420 + (9 * (M 150 (4 : Int32).toNatClampNeg))) fun v14 =>
  xgd (xin v14 916) <| xl (xw M 150 v14.toNatClampNeg i1) fun M15 =>
  xgd (xin (v14 + 1) 916) <| xl (xw M15 150 (v14 + 1).toNatClampNeg i2) fun M16 =>
  xgd (xin (v14 + 2) 916) <| xl (xw M16 150 (v14 + 2).toNatClampNeg i3) fun M17 =>
  xgd (xin (v14 + 3) 916) <| xl (xw M17 150 (v14 + 3).toNatClampNeg i4) fun M18 =>
  xgd (xin 0 916) <|
  xgd (xin (v14 + 4) 916) <| xl (xw M18 150 (v14 + 4).toNatClampNeg (M18 150 (0 : Int32).toNatClampNeg)) fun M19 =>
  xl (0 : Int32) fun v20 =>
  f_X9_plays_128 xFU M19 i1 i2 i3 i4 i5 i6 i7 v14 v20
def f_X9_least_43 (ct n : Nat) (M : xM) (k7 : Int32 → Int32 → Int32 → Int32 → Option Int32) (i1 : Int32) (i2 : Int32) (i3 : Int32) (i4 : Int32) (s0 : Int32) : Option Int32 :=
  xl s0 fun v5 =>
  xl (i4 + 1) fun v6 =>
  k7 i1 i2 v5 v6
def f_X9_least_42 (ct n : Nat) (M : xM) (k7 : Int32 → Int32 → Int32 → Int32 → Option Int32) (i1 : Int32) (i2 : Int32) (i3 : Int32) (i4 : Int32) : Option Int32 :=
  f_X9_least_43 ct n M k7 i1 i2 i3 i4 i3
def f_X9_least_7 (ct n : Nat) (M : xM) : Nat → Int32 → Int32 → Int32 → Int32 → Option Int32
  | 0, _, _, _, _ => none
  | fu + 1, i1, i2, i3, i4 =>
    if 4 ≤ i4 then (
      some i3)
    else (
      if (((i2 : Int32) >>> ((i4 : Int32) &&& 31)) &&& 1) = 1 then (
        xgd (xin (i1 + i4) n) <|
        if i3 ≤ (M ct (i1 + i4).toNatClampNeg) then (
          f_X9_least_42 ct n M (f_X9_least_7 ct n M fu) i1 i2 i3 i4)
        else (
          xgd (xin (i1 + i4) n) <|
          f_X9_least_43 ct n M (f_X9_least_7 ct n M fu) i1 i2 i3 i4 (M ct (i1 + i4).toNatClampNeg)))
      else (
        f_X9_least_42 ct n M (f_X9_least_7 ct n M fu) i1 i2 i3 i4))
def f_X9_least (ct n : Nat) (M : xM) (a1 a2 : Int32) : Option Int32 :=
  xl (1000 : Int32) fun v7 =>
  xl (0 : Int32) fun v8 =>
  f_X9_least_7 ct n M xFU a1 a2 v7 v8
def f_X9_qualityIn (M : xM) (a1 a2 : Int32) : Option Int32 :=
  xl (420 + (9 * a1)) fun v3 =>
  xl (84 + (5 * a2)) fun v4 =>
  xgd (xin v3 916) <|
  xgd (xin v4 916) <|
  if (M 150 v3.toNatClampNeg) = (M 150 v4.toNatClampNeg) then (
    xgd (xin (v4 + 1) 916) <|
    xb (f_X9_least 150 916 M (v3 + 5) (M 150 (v4 + 1).toNatClampNeg)) fun v5 =>
    some v5)
  else (
    some 0)
def f_X9_bestFor_52 (M : xM) (k7 : Int32 → Int32 → Int32 → Int32 → Option Int32) (i1 : Int32) (i2 : Int32) (i3 : Int32) (i4 : Int32) (i5 : Int32) (s0 : Int32) : Option Int32 :=
  xl s0 fun v8 =>
  xl (i4 + 1) fun v9 =>
  k7 i1 i2 v8 v9
def f_X9_bestFor_39 (M : xM) (k7 : Int32 → Int32 → Int32 → Int32 → Option Int32) (i1 : Int32) (i2 : Int32) (i3 : Int32) (i4 : Int32) (i5 : Int32) (s0 : Int32) : Option Int32 :=
  xl s0 fun v10 =>
  if i5 ≤ i3 then (
    f_X9_bestFor_52 M k7 i1 v10 i3 i4 i5 i3)
  else (
    f_X9_bestFor_52 M k7 i1 v10 i3 i4 i5 i5)
def f_X9_bestFor_7 (M : xM) : Nat → Int32 → Int32 → Int32 → Int32 → Option Int32
  | 0, _, _, _, _ => none
  | fu + 1, i1, i2, i3, i4 =>
    xgd (xin 4 916) <|
    if (M 150 (4 : Int32).toNatClampNeg) ≤ i4 then (
      some i2)
    else (
      xb (f_X9_qualityIn M i4 i1) fun v11 =>
      xl v11 fun v12 =>
      if v12 ≤ i3 then (
        f_X9_bestFor_39 M (f_X9_bestFor_7 M fu) i1 i2 i3 i4 v12 i2)
      else (
        f_X9_bestFor_39 M (f_X9_bestFor_7 M fu) i1 i2 i3 i4 v12 i4))
def f_X9_bestFor (M : xM) (a1 : Int32) : Option Int32 :=
  xl (-1 : Int32) fun v13 =>
  xl (0 : Int32) fun v14 =>
  xl (0 : Int32) fun v15 =>
  f_X9_bestFor_7 M xFU a1 v13 v14 v15
def f_X9_shared_66 (M : xM) (i1 : Int32) (i2 : Int32) (i3 : Int32) (i4 : Int32) (i5 : Int32) (i6 : Int32) (i7 : Int32) (s0 : Int32) : Option Int32 :=
  xl s0 fun v4 =>
  xgd (xin (i6 + 2) 916) <|
  if (M 150 (i6 + 2).toNatClampNeg) = i5 then (
    some 0)
  else (
    xgd (xin 0 916) <|
    xgd (xin (i6 + 3) 916) <|
    if (M 150 (i6 + 3).toNatClampNeg) ≤ (M 150 (0 : Int32).toNatClampNeg) then (
      some 0)
    else (
      if v4 ≤ i7 then (
        some 0)
      else (
        some (v4 - i7))))
def f_X9_shared_36 (M : xM) (i1 : Int32) (i2 : Int32) (i3 : Int32) (i4 : Int32) (i5 : Int32) (i6 : Int32) (s0 : Int32) : Option Int32 :=
  xl s0 fun v5 =>
  xgd (xin (i6 + 1) 916) <|
  if i4 ≤ (M 150 (i6 + 1).toNatClampNeg) then (
    f_X9_shared_66 M i1 i2 i3 i4 i5 i6 v5 i4)
  else (
    xgd (xin (i6 + 1) 916) <|
    f_X9_shared_66 M i1 i2 i3 i4 i5 i6 v5 (M 150 (i6 + 1).toNatClampNeg))
def f_X9_shared (M : xM) (a1 a2 a3 a4 a5 : Int32) : Option Int32 :=
  xl ((164 + (16 * a1)) + (4 * a2)) fun v6 =>
  xgd (xin v6 916) <|
  if (M 150 v6.toNatClampNeg) ≤ a3 then (
    f_X9_shared_36 M a1 a2 a3 a4 a5 v6 a3)
  else (
    xgd (xin v6 916) <|
    f_X9_shared_36 M a1 a2 a3 a4 a5 v6 (M 150 v6.toNatClampNeg))
def f_X9_price (a1 : Int32) : Option Int32 :=
  if a1 = 0 then (
    some 0)
  else (
    if a1 = 1 then (
      some 1)
    else (
      some 3))
def f_X9_isOpen (M : xM) (a1 : Int32) : Option Int32 :=
  xgd (xin (756 + (10 * a1)) 916) <|
  if (M 150 (756 + (10 * a1)).toNatClampNeg) = 0 then (
    some 1)
  else (
    some 0)
def f_X9_answers_76 : Nat → xM → Int32 → Int32 → Int32 → Int32 → Int32 → Int32 → Int32 → Option (Int32 × xM)
  | 0, _, _, _, _, _, _, _, _ => none
  | fu + 1, M, i1, i2, i3, i4, i5, i6, i7 =>
    xgd (xin ((84 + (5 * i4)) + 4) 916) <|
    if (M 150 ((84 + (5 * i4)) + 4).toNatClampNeg) ≤ i7 then (
      xgd (xin i3 916) <| xl (xw M 150 i3.toNatClampNeg 1) fun M8 =>
      xgd (xin (i3 + 8) 916) <| xl (xw M8 150 (i3 + 8).toNatClampNeg i5) fun M9 =>
      xgd (xin 7 916) <| xl (xw M9 150 (7 : Int32).toNatClampNeg 0) fun M10 =>
      some (i5, M10))
    else (
      xgd (xin (i3 + 3) 916) <|
      xgd (xin (i3 + 4) 916) <|
      xgd (xin (i3 + 1) 916) <|
      xb (f_X9_shared M i4 i7 (M 150 (i3 + 3).toNatClampNeg) (M 150 (i3 + 4).toNatClampNeg) (M 150 (i3 + 1).toNatClampNeg)) fun v11 =>
      xgd (xin (i3 + 5) 916) <|
      xb (f_X9_price (M 150 (i3 + 5).toNatClampNeg)) fun v12 =>
      xl (v11 * v12) fun v13 =>
      xgd (xin (((164 + (16 * i4)) + (4 * i7)) + 2) 916) <|
      xgd (xin (8 + (M 150 (((164 + (16 * i4)) + (4 * i7)) + 2).toNatClampNeg)) 916) <|
      xgd (xin (8 + (M 150 (((164 + (16 * i4)) + (4 * i7)) + 2).toNatClampNeg)) 916) <| xl (xw M 150 (8 + (M 150 (((164 + (16 * i4)) + (4 * i7)) + 2).toNatClampNeg)).toNatClampNeg ((M 150 (8 + (M 150 (((164 + (16 * i4)) + (4 * i7)) + 2).toNatClampNeg)).toNatClampNeg) + v13)) fun M14 =>
      xgd (xin (i3 + 1) 916) <|
      xgd (xin (16 + (M14 150 (i3 + 1).toNatClampNeg)) 916) <|
      xgd (xin (16 + (M14 150 (i3 + 1).toNatClampNeg)) 916) <| xl (xw M14 150 (16 + (M14 150 (i3 + 1).toNatClampNeg)).toNatClampNeg ((M14 150 (16 + (M14 150 (i3 + 1).toNatClampNeg)).toNatClampNeg) + v13)) fun M15 =>
      xgd (xin (i3 + 9) 916) <|
      xgd (xin (i3 + 9) 916) <| xl (xw M15 150 (i3 + 9).toNatClampNeg ((M15 150 (i3 + 9).toNatClampNeg) + v13)) fun M16 =>
      xl (i7 + 1) fun v17 =>
      (f_X9_answers_76 fu) M16 i1 i2 i3 i4 i5 i6 v17)
def f_X9_answers_73 (M : xM) (i1 : Int32) (i2 : Int32) (i3 : Int32) (i4 : Int32) (i5 : Int32) (i6 : Int32) : Option (Int32 × xM) :=
  xl (0 : Int32) fun v18 =>
  f_X9_answers_76 xFU M i1 i2 i3 i4 i5 i6 v18
def f_X9_goesBy_152 (k87 : xM → Int32 → Int32 → Int32 → Int32 → Option (Int32 × xM)) (M : xM) (i1 : Int32) (i2 : Int32) (i3 : Int32) (i4 : Int32) : Option (Int32 × xM) :=
  xl (i4 + 1) fun v7 =>
  k87 M i1 i2 i3 v7
def f_X9_goesBy_87 : Nat → xM → Int32 → Int32 → Int32 → Int32 → Option (Int32 × xM)
  | 0, _, _, _, _, _ => none
  | fu + 1, M, i1, i2, i3, i4 =>
    xgd (xin 6 916) <|
    if (M 150 (6 : Int32).toNatClampNeg) ≤ i4 then (
      some (i3, M))
    else (
      xb (f_X9_isOpen M i4) fun v8 =>
      if v8 = 0 then (
        f_X9_goesBy_152 (f_X9_goesBy_87 fu) M i1 i2 i3 i4)
      else (
        xgd (xin ((756 + (10 * i4)) + 7) 916) <|
        xgd (xin 0 916) <|
        if (M 150 (0 : Int32).toNatClampNeg) ≤ (M 150 ((756 + (10 * i4)) + 7).toNatClampNeg) then (
          f_X9_goesBy_152 (f_X9_goesBy_87 fu) M i1 i2 i3 i4)
        else (
          xgd (xin (756 + (10 * i4)) 916) <| xl (xw M 150 (756 + (10 * i4)).toNatClampNeg 2) fun M9 =>
          xl (i3 + 1) fun v10 =>
          f_X9_goesBy_152 (f_X9_goesBy_87 fu) M9 i1 i2 v10 i4)))
def f_X9_goesBy_50 : Nat → xM → Int32 → Int32 → Int32 → Option (Int32 × xM)
  | 0, _, _, _, _ => none
  | fu + 1, M, i1, i2, i3 =>
    xgd (xin 2 916) <|
    if (M 150 (2 : Int32).toNatClampNeg) ≤ i3 then (
      xl (0 : Int32) fun v11 =>
      xl (0 : Int32) fun v12 =>
      f_X9_goesBy_87 xFU M i1 i2 v11 v12)
    else (
      xgd (xin ((64 + (5 * i3)) + 4) 916) <| xl (xw M 150 ((64 + (5 * i3)) + 4).toNatClampNeg 28800) fun M13 =>
      xl (i3 + 1) fun v14 =>
      (f_X9_goesBy_50 fu) M13 i1 i2 v14)
def f_X9_goesBy_38 (M : xM) (i1 : Int32) (i2 : Int32) : Option (Int32 × xM) :=
  xgd (xin 0 916) <|
  xgd (xin 0 916) <| xl (xw M 150 (0 : Int32).toNatClampNeg ((M 150 (0 : Int32).toNatClampNeg) + i1)) fun M15 =>
  xl (0 : Int32) fun v16 =>
  f_X9_goesBy_50 xFU M15 i1 i2 v16
