def p_X6_in (v0 : Int64) (v2 : Int64) (v4 : Int64) : Option (Int32) :=
  if v0 < v2 then
    some ((nI 0))
  else
    if v4 < v0 then
      some ((nI 0))
    else
      some ((nI 1))
def p_X6_isColumn (v0 : Int32) : Option (Int32) :=
  bd1 (p_X6_in (i2l v0) (lN 0) (lN 3)) <| fun a_1 =>
  gd (isB a_1) <|
  some (a_1)
def p_X6_column (v1 : Int32) (v2 : Int32) (v3 : Int32) (mk : Nat → Int32) (mo : Nat → Int32) (mm : Nat → Int32) : Option (Int32 × (Nat → Int32) × (Nat → Int32) × (Nat → Int32)) :=
  bd1 (p_X6_isColumn v1) <| fun a_1 =>
  if a_1 = (nI 0) then
    some ((-1 : Int32), mk, mo, mm)
  else
    bd1 (p_X6_in (i2l v2) (lN 0) (lN 3)) <| fun a_3 =>
    if a_3 = (nI 0) then
      some ((-1 : Int32), mk, mo, mm)
    else
      gd (inb v1 7) <|
      gd (inb v1 7) <|
      gd (inb v1 7) <|
      gd (isB v3) <|
      gd (inb v1 7) <|
      some ((mm (ix v1)), (up mk (ix v1) v2), (up mo (ix v1) v3), (up mm (ix v1) (nI 0)))
def p_X6_adds_L33 (v5 : Int32) (k60 : (Nat → Int32) → Option (Int32 × (Nat → Int32) × (Nat → Int32) × (Nat → Int64) × (Nat → Int32))) (k33 : Int32 → (Nat → Int32) → Option (Int32 × (Nat → Int32) × (Nat → Int32) × (Nat → Int64) × (Nat → Int32))) (v6 : Int32) (mx : Nat → Int32) : Option (Int32 × (Nat → Int32) × (Nat → Int32) × (Nat → Int64) × (Nat → Int32)) :=
  if v6 < (nI 40) then
    gd (inb (((nI 40) * v5) + v6) 56000) <|
    k33 (v6 + (nI 1)) (up mx (ix (((nI 40) * v5) + v6)) (b8 (nI 0)))
  else
    k60 mx
def p_X6_adds (v1 : Int32) (v2 : Int32) (v3 : Int64) (mm : Nat → Int32) (mt : Nat → Int32) (mv : Nat → Int64) (mx : Nat → Int32) : Option (Int32 × (Nat → Int32) × (Nat → Int32) × (Nat → Int64) × (Nat → Int32)) :=
  gd (inb v1 7) <|
  gd (inb (((nI 200) * v1) + (mm (ix v1))) 1400) <|
  gd (isB v2) <|
  gd (inb (((nI 200) * v1) + (mm (ix v1))) 1400) <|
  itr2 (p_X6_adds_L33 (((nI 200) * v1) + (mm (ix v1))) (fun mx_6 =>
      gd (inb v1 7) <|
      gd (inb v1 7) <|
      gd (inb v1 7) <|
      some ((((up mm (ix v1) ((mm (ix v1)) + (nI 1))) (ix v1)) - (nI 1)), (up mm (ix v1) ((mm (ix v1)) + (nI 1))), (up mt (ix (((nI 200) * v1) + (mm (ix v1)))) v2), (up mv (ix (((nI 200) * v1) + (mm (ix v1)))) v3), mx_6))) fu (nI 0) mx
def p_X6_add (v1 : Int32) (v2 : Int64) (mk : Nat → Int32) (mm : Nat → Int32) (mt : Nat → Int32) (mv : Nat → Int64) (mx : Nat → Int32) : Option (Int32 × (Nat → Int32) × (Nat → Int32) × (Nat → Int64) × (Nat → Int32)) :=
  bd1 (p_X6_isColumn v1) <| fun a_1 =>
  if a_1 = (nI 0) then
    some ((-1 : Int32), mm, mt, mv, mx)
  else
    gd (inb v1 7) <|
    if (mk (ix v1)) = (nI 2) then
      some ((-2 : Int32), mm, mt, mv, mx)
    else
      gd (inb v1 7) <|
      if (mm (ix v1)) = (nI 200) then
        some ((-3 : Int32), mm, mt, mv, mx)
      else
        gd (inb v1 7) <|
        if (mk (ix v1)) = (nI 0) then
          bd5 (p_X6_adds v1 (nI 1) (i2l (l2i v2)) mm mt mv mx) <| fun a_6 mm_7 mt_8 mv_9 mx_10 =>
          some (a_6, mm_7, mt_8, mv_9, mx_10)
        else
          gd (inb v1 7) <|
          if (mk (ix v1)) = (nI 3) then
            if v2 = (lN 0) then
              bd5 (p_X6_adds v1 (nI 1) (lN 0) mm mt mv mx) <| fun a_13 mm_14 mt_15 mv_16 mx_17 =>
              some (a_13, mm_14, mt_15, mv_16, mx_17)
            else
              bd5 (p_X6_adds v1 (nI 1) (lN 1) mm mt mv mx) <| fun a_19 mm_20 mt_21 mv_22 mx_23 =>
              some (a_19, mm_20, mt_21, mv_22, mx_23)
          else
            bd5 (p_X6_adds v1 (nI 1) v2 mm mt mv mx) <| fun a_25 mm_26 mt_27 mv_28 mx_29 =>
            some (a_25, mm_26, mt_27, mv_28, mx_29)
def p_X6_type_L33 (v1 : Int64) (k33 : Int32 → (Nat → Int32) → Int32 → Option (Int32 × (Nat → Int32) × Int32)) (v4 : Int32) (mp : Nat → Int32) (mtd : Int32) : Option (Int32 × (Nat → Int32) × Int32) :=
  if v4 < (nI 0) then
    some (mtd, mp, mtd)
  else
    gd (inb mtd 40) <|
    k33 (v4 + (-1 : Int32)) (up mp (ix mtd) (b8 (l2i (lshr v1 ((nI 8) * v4))))) (mtd + (nI 1))
def p_X6_type (v1 : Int64) (v3 : Int32) (mp : Nat → Int32) (mtd : Int32) : Option (Int32 × (Nat → Int32) × Int32) :=
  bd1 (p_X6_in (i2l v3) (lN 1) (lN 8)) <| fun a_1 =>
  if a_1 = (nI 0) then
    some ((-1 : Int32), mp, mtd)
  else
    if (nI 40) < (mtd + v3) then
      some ((-3 : Int32), mp, mtd)
    else
      itr3 (p_X6_type_L33 v1 ) fu (v3 - (nI 1)) mp mtd
def p_X6_addText_L51 (v1 : Int32) (v2 : Int32) (mm : Nat → Int32) (mt : Nat → Int32) (mv : Nat → Int64) (mp : Nat → Int32) (mtd : Int32) (k51 : Int32 → (Nat → Int32) → Option (Int32 × (Nat → Int32) × (Nat → Int32) × (Nat → Int64) × (Nat → Int32) × Int32)) (v3 : Int32) (mx : Nat → Int32) : Option (Int32 × (Nat → Int32) × (Nat → Int32) × (Nat → Int64) × (Nat → Int32) × Int32) :=
  if v3 < mtd then
    gd (inb v3 40) <|
    gd (inb (((nI 40) * (((nI 200) * v1) + v2)) + v3) 56000) <|
    k51 (v3 + (nI 1)) (up mx (ix (((nI 40) * (((nI 200) * v1) + v2)) + v3)) (b8 (mp (ix v3))))
  else
    some (v2, mm, mt, mv, mx, (nI 0))
def p_X6_addText (v1 : Int32) (mk : Nat → Int32) (mm : Nat → Int32) (mt : Nat → Int32) (mv : Nat → Int64) (mx : Nat → Int32) (mp : Nat → Int32) (mtd : Int32) : Option (Int32 × (Nat → Int32) × (Nat → Int32) × (Nat → Int64) × (Nat → Int32) × Int32) :=
  bd1 (p_X6_isColumn v1) <| fun a_1 =>
  if a_1 = (nI 0) then
    some ((-1 : Int32), mm, mt, mv, mx, mtd)
  else
    gd (inb v1 7) <|
    if (mk (ix v1)) = (nI 2) then
      gd (inb v1 7) <|
      if (mm (ix v1)) = (nI 200) then
        some ((-3 : Int32), mm, mt, mv, mx, mtd)
      else
        bd5 (p_X6_adds v1 (nI 1) (i2l mtd) mm mt mv mx) <| fun a_5 mm_6 mt_7 mv_8 mx_9 =>
        itr2 (p_X6_addText_L51 v1 a_5 mm_6 mt_7 mv_8 mp mtd ) fu (nI 0) mx_9
    else
      some ((-2 : Int32), mm, mt, mv, mx, mtd)
def p_X6_addNone (v1 : Int32) (mo : Nat → Int32) (mm : Nat → Int32) (mt : Nat → Int32) (mv : Nat → Int64) (mx : Nat → Int32) : Option (Int32 × (Nat → Int32) × (Nat → Int32) × (Nat → Int64) × (Nat → Int32)) :=
  bd1 (p_X6_isColumn v1) <| fun a_1 =>
  if a_1 = (nI 0) then
    some ((-1 : Int32), mm, mt, mv, mx)
  else
    gd (inb v1 7) <|
    if (mo (ix v1)) = (nI 0) then
      some ((-2 : Int32), mm, mt, mv, mx)
    else
      gd (inb v1 7) <|
      if (mm (ix v1)) = (nI 200) then
        some ((-3 : Int32), mm, mt, mv, mx)
      else
        bd5 (p_X6_adds v1 (nI 0) (lN 0) mm mt mv mx) <| fun a_5 mm_6 mt_7 mv_8 mx_9 =>
        some (a_5, mm_6, mt_7, mv_8, mx_9)
def p_X6_copies_L26 (v1 : Int32) (v2 : Int32) (mt : Nat → Int32) (mv : Nat → Int64) (k26 : Int32 → (Nat → Int32) → Option ((Nat → Int32) × (Nat → Int64) × (Nat → Int32))) (v3 : Int32) (mx : Nat → Int32) : Option ((Nat → Int32) × (Nat → Int64) × (Nat → Int32)) :=
  if v3 < (nI 40) then
    gd (inb (((nI 40) * v2) + v3) 56000) <|
    gd (inb (((nI 40) * v1) + v3) 56000) <|
    k26 (v3 + (nI 1)) (up mx (ix (((nI 40) * v1) + v3)) (b8 (mx (ix (((nI 40) * v2) + v3)))))
  else
    some (mt, mv, mx)
def p_X6_copies (v1 : Int32) (v2 : Int32) (mt : Nat → Int32) (mv : Nat → Int64) (mx : Nat → Int32) : Option ((Nat → Int32) × (Nat → Int64) × (Nat → Int32)) :=
  gd (inb v2 1400) <|
  gd (inb v1 1400) <|
  gd (isB (mt (ix v2))) <|
  gd (inb v2 1400) <|
  gd (inb v1 1400) <|
  itr2 (p_X6_copies_L26 v1 v2 (up mt (ix v1) (mt (ix v2))) (up mv (ix v1) (mv (ix v2))) ) fu (nI 0) mx
def p_X6_repeat_L65 (v1 : Int32) (v3 : Int32) (mm : Nat → Int32) (k65 : Int32 → (Nat → Int32) → (Nat → Int64) → (Nat → Int32) → Option (Int32 × (Nat → Int32) × (Nat → Int32) × (Nat → Int64) × (Nat → Int32))) (v4 : Int32) (mt : Nat → Int32) (mv : Nat → Int64) (mx : Nat → Int32) : Option (Int32 × (Nat → Int32) × (Nat → Int32) × (Nat → Int64) × (Nat → Int32)) :=
  if v4 < (nI 0) then
    gd (inb v1 7) <|
    some ((mm (ix v1)), mm, mt, mv, mx)
  else
    gd (nz v3) <|
    bd3 (p_X6_copies (((nI 200) * v1) + v4) (((nI 200) * v1) + (v4 / v3)) mt mv mx) <| fun mt_11 mv_12 mx_13 =>
    k65 (v4 + (-1 : Int32)) mt_11 mv_12 mx_13
def p_X6_repeat (v1 : Int32) (v2 : Int32) (v3 : Int32) (mm : Nat → Int32) (mt : Nat → Int32) (mv : Nat → Int64) (mx : Nat → Int32) : Option (Int32 × (Nat → Int32) × (Nat → Int32) × (Nat → Int64) × (Nat → Int32)) :=
  bd1 (p_X6_isColumn v1) <| fun a_1 =>
  if a_1 = (nI 0) then
    some ((-1 : Int32), mm, mt, mv, mx)
  else
    gd (inb v1 7) <|
    bd1 (p_X6_in (i2l v2) (lN 0) (i2l (mm (ix v1)))) <| fun a_4 =>
    if a_4 = (nI 0) then
      some ((-1 : Int32), mm, mt, mv, mx)
    else
      bd1 (p_X6_in (i2l v3) (lN 1) (lN 200)) <| fun a_6 =>
      if a_6 = (nI 0) then
        some ((-1 : Int32), mm, mt, mv, mx)
      else
        if (nI 200) < (v2 * v3) then
          some ((-3 : Int32), mm, mt, mv, mx)
        else
          gd (inb v1 7) <|
          itr4 (p_X6_repeat_L65 v1 v3 (up mm (ix v1) (v2 * v3)) ) fu ((v2 * v3) - (nI 1)) mt mv mx
def p_X6_areLike_L40 (v1 : Int32) (v2 : Int32) (mx : Nat → Int32) (k40 : Int32 → Int32 → Option (Int32)) (v3 : Int32) (v4 : Int32) : Option (Int32) :=
  if v4 < (nI 40) then
    if v3 = (nI 0) then
      gd (isB v3) <|
      some (v3)
    else
      gd (inb (((nI 40) * v1) + v4) 56000) <|
      gd (inb (((nI 40) * v2) + v4) 56000) <|
      if (mx (ix (((nI 40) * v1) + v4))) = (mx (ix (((nI 40) * v2) + v4))) then
        k40 (nI 1) (v4 + (nI 1))
      else
        k40 (nI 0) (v4 + (nI 1))
  else
    gd (isB v3) <|
    some (v3)
def p_X6_areLike (v1 : Int32) (v2 : Int32) (mt : Nat → Int32) (mv : Nat → Int64) (mx : Nat → Int32) : Option (Int32) :=
  gd (inb v1 1400) <|
  gd (inb v2 1400) <|
  if (mt (ix v1)) = (mt (ix v2)) then
    gd (inb v1 1400) <|
    gd (inb v2 1400) <|
    if (mv (ix v1)) = (mv (ix v2)) then
      itr2 (p_X6_areLike_L40 v1 v2 mx ) fu (nI 1) (nI 0)
    else
      itr2 (p_X6_areLike_L40 v1 v2 mx ) fu (nI 0) (nI 0)
  else
    itr2 (p_X6_areLike_L40 v1 v2 mx ) fu (nI 0) (nI 0)
def p_X6_told_L127 (v1 : Int32) (v5 : Int32) (v6 : Int32) (mt : Nat → Int32) (mv : Nat → Int64) (mx : Nat → Int32) (k169 : Int32 → Option (Int32)) (k127 : Int32 → Int32 → Option (Int32)) (v7 : Int32) (v8 : Int32) : Option (Int32) :=
  if v8 < v5 then
    if v7 = (nI 0) then
      k169 v7
    else
      bd1 (p_X6_areLike (((nI 200) * v1) + v8) v6 mt mv mx) <| fun a_11 =>
      if a_11 = (nI 0) then
        k127 (nI 1) (v8 + (nI 1))
      else
        k127 (nI 0) (v8 + (nI 1))
  else
    k169 v7
def p_X6_told_J169 (v3 : Int32) (v4 : Int32) (v5 : Int32) (v7 : Int32) (k76 : Int32 → Int32 → Int32 → Option (Int32)) : Option (Int32) :=
  if v7 = (nI 0) then
    k76 v3 (v4 + (nI 0)) (v5 + (nI 1))
  else
    k76 v3 (v4 + (nI 1)) (v5 + (nI 1))
def p_X6_told_J113 (v1 : Int32) (v4 : Int32) (v5 : Int32) (v6 : Int32) (s0 : Int32) (s1 : Int32) (mt : Nat → Int32) (mv : Nat → Int64) (mx : Nat → Int32) (k76 : Int32 → Int32 → Int32 → Option (Int32)) : Option (Int32) :=
  gd (inb v6 1400) <|
  itr2 (p_X6_told_L127 v1 v5 v6 mt mv mx (fun v7_13 =>
      p_X6_told_J169 (s0 + s1) v4 v5 v7_13 k76)) fu (mt (ix v6)) (nI 0)
def p_X6_told_L76 (v1 : Int32) (mm : Nat → Int32) (mt : Nat → Int32) (mv : Nat → Int64) (mx : Nat → Int32) (k190 : Int32 → Int32 → Option (Int32)) (k76 : Int32 → Int32 → Int32 → Option (Int32)) (v3 : Int32) (v4 : Int32) (v5 : Int32) : Option (Int32) :=
  gd (inb v1 7) <|
  if v5 < (mm (ix v1)) then
    gd (inb (((nI 200) * v1) + v5) 1400) <|
    if (mt (ix (((nI 200) * v1) + v5))) = (nI 0) then
      p_X6_told_J113 v1 v4 v5 (((nI 200) * v1) + v5) v3 (nI 1) mt mv mx k76
    else
      p_X6_told_J113 v1 v4 v5 (((nI 200) * v1) + v5) v3 (nI 0) mt mv mx k76
  else
    k190 v3 v4
def p_X6_told (v1 : Int32) (v2 : Int32) (mk : Nat → Int32) (mo : Nat → Int32) (mm : Nat → Int32) (mt : Nat → Int32) (mv : Nat → Int64) (mx : Nat → Int32) : Option (Int32) :=
  bd1 (p_X6_isColumn v1) <| fun a_1 =>
  if a_1 = (nI 0) then
    some ((-1 : Int32))
  else
    bd1 (p_X6_in (i2l v2) (lN 0) (lN 4)) <| fun a_3 =>
    if a_3 = (nI 0) then
      some ((-1 : Int32))
    else
      if v2 < (nI 3) then
        if v2 = (nI 0) then
          gd (inb v1 7) <|
          some ((mk (ix v1)))
        else
          if v2 = (nI 1) then
            gd (inb v1 7) <|
            if (mo (ix v1)) = (nI 0) then
              some ((nI 0))
            else
              some ((nI 1))
          else
            gd (inb v1 7) <|
            some ((mm (ix v1)))
      else
        itr3 (p_X6_told_L76 v1 mm mt mv mx (fun v3_14 v4_15 =>
            if v2 = (nI 3) then
              some (v3_14)
            else
              some (v4_15))) fu (nI 0) (nI 0) (nI 0)
def p_X6_isValue (v1 : Int32) (v2 : Int32) (mm : Nat → Int32) : Option (Int32) :=
  bd1 (p_X6_isColumn v1) <| fun a_1 =>
  if a_1 = (nI 0) then
    some ((nI 0))
  else
    gd (inb v1 7) <|
    bd1 (p_X6_in (i2l v2) (lN 0) (i2l ((mm (ix v1)) - (nI 1)))) <| fun a_4 =>
    if a_4 = (nI 0) then
      some ((nI 0))
    else
      some ((nI 1))
def p_X6_has (v1 : Int32) (v2 : Int32) (mm : Nat → Int32) (mt : Nat → Int32) : Option (Int32) :=
  bd1 (p_X6_isValue v1 v2 mm) <| fun a_1 =>
  if a_1 = (nI 0) then
    some ((-1 : Int32))
  else
    gd (inb (((nI 200) * v1) + v2) 1400) <|
    if (mt (ix (((nI 200) * v1) + v2))) = (nI 0) then
      some ((nI 0))
    else
      some ((nI 1))
def p_X6_value (v1 : Int32) (v2 : Int32) (mm : Nat → Int32) (mt : Nat → Int32) (mv : Nat → Int64) : Option (Int64) :=
  bd1 (p_X6_isValue v1 v2 mm) <| fun a_1 =>
  if a_1 = (nI 0) then
    some ((lN 0))
  else
    gd (inb (((nI 200) * v1) + v2) 1400) <|
    if (mt (ix (((nI 200) * v1) + v2))) = (nI 0) then
      some ((lN 0))
    else
      gd (inb (((nI 200) * v1) + v2) 1400) <|
      some ((mv (ix (((nI 200) * v1) + v2))))
def p_X6_letter_J62 (v1 : Int32) (v2 : Int32) (v3 : Int32) (s0 : Int32) (mx : Nat → Int32) : Option (Int32) :=
  if s0 = (nI 0) then
    some ((-1 : Int32))
  else
    gd (inb (((nI 40) * (((nI 200) * v1) + v2)) + v3) 56000) <|
    some (((mx (ix (((nI 40) * (((nI 200) * v1) + v2)) + v3))) &&& (nI 255)))
def p_X6_letter_J61 (v1 : Int32) (v2 : Int32) (v3 : Int32) (mx : Nat → Int32) : Option (Int32) :=
  p_X6_letter_J62 v1 v2 v3 (nI 0) mx
def p_X6_letter (v1 : Int32) (v2 : Int32) (v3 : Int32) (mk : Nat → Int32) (mm : Nat → Int32) (mt : Nat → Int32) (mv : Nat → Int64) (mx : Nat → Int32) : Option (Int32) :=
  bd1 (p_X6_isValue v1 v2 mm) <| fun a_1 =>
  if a_1 = (nI 0) then
    p_X6_letter_J61 v1 v2 v3 mx
  else
    gd (inb v1 7) <|
    if (mk (ix v1)) = (nI 2) then
      gd (inb (((nI 200) * v1) + v2) 1400) <|
      if (mt (ix (((nI 200) * v1) + v2))) = (nI 0) then
        p_X6_letter_J61 v1 v2 v3 mx
      else
        gd (inb (((nI 200) * v1) + v2) 1400) <|
        bd1 (p_X6_in (i2l v3) (lN 0) ((mv (ix (((nI 200) * v1) + v2))) - (lN 1))) <| fun a_7 =>
        if a_7 = (nI 0) then
          p_X6_letter_J61 v1 v2 v3 mx
        else
          p_X6_letter_J62 v1 v2 v3 (nI 1) mx
    else
      p_X6_letter_J61 v1 v2 v3 mx
def p_X6_alike_L55 (v1 : Int32) (v2 : Int32) (mm : Nat → Int32) (mt : Nat → Int32) (mv : Nat → Int64) (mx : Nat → Int32) (k97 : Int32 → Option (Int32)) (k55 : Int32 → Int32 → Option (Int32)) (v3 : Int32) (v4 : Int32) : Option (Int32) :=
  gd (inb v1 7) <|
  if v4 < (mm (ix v1)) then
    if v3 = (nI 0) then
      k97 v3
    else
      bd1 (p_X6_areLike (((nI 200) * v1) + v4) (((nI 200) * v2) + v4) mt mv mx) <| fun a_10 =>
      k55 a_10 (v4 + (nI 1))
  else
    k97 v3
def p_X6_alike_J97 (v3 : Int32) : Option (Int32) :=
  if v3 = (nI 0) then
    some ((nI 0))
  else
    some ((nI 1))
def p_X6_alike (v1 : Int32) (v2 : Int32) (mk : Nat → Int32) (mm : Nat → Int32) (mt : Nat → Int32) (mv : Nat → Int64) (mx : Nat → Int32) : Option (Int32) :=
  bd1 (p_X6_isColumn v1) <| fun a_1 =>
  if a_1 = (nI 0) then
    some ((-1 : Int32))
  else
    bd1 (p_X6_isColumn v2) <| fun a_3 =>
    if a_3 = (nI 0) then
      some ((-1 : Int32))
    else
      gd (inb v1 7) <|
      gd (inb v2 7) <|
      if (mk (ix v1)) = (mk (ix v2)) then
        gd (inb v1 7) <|
        gd (inb v2 7) <|
        if (mm (ix v1)) = (mm (ix v2)) then
          itr2 (p_X6_alike_L55 v1 v2 mm mt mv mx (fun v3_12 =>
              p_X6_alike_J97 v3_12)) fu (nI 1) (nI 0)
        else
          itr2 (p_X6_alike_L55 v1 v2 mm mt mv mx (fun v3_13 =>
              p_X6_alike_J97 v3_13)) fu (nI 0) (nI 0)
      else
        itr2 (p_X6_alike_L55 v1 v2 mm mt mv mx (fun v3_14 =>
            p_X6_alike_J97 v3_14)) fu (nI 0) (nI 0)
def p_X6_byteTo (v1 : Int32) (md : Nat → Int32) (mdd : Int32) : Option ((Nat → Int32) × Int32) :=
  gd (inb mdd 60000) <|
  some ((up md (ix mdd) (b8 v1)), (mdd + (nI 1)))
def p_X6_bytesTo_L3 (v1 : Int64) (v3 : Int32) (k3 : Int32 → (Nat → Int32) → Int32 → Option ((Nat → Int32) × Int32)) (v4 : Int32) (md : Nat → Int32) (mdd : Int32) : Option ((Nat → Int32) × Int32) :=
  if v4 < v3 then
    bd2 (p_X6_byteTo (l2i (lshr v1 ((nI 8) * v4))) md mdd) <| fun md_1 mdd_2 =>
    k3 (v4 + (nI 1)) md_1 mdd_2
  else
    some (md, mdd)
def p_X6_bytesTo (v1 : Int64) (v3 : Int32) (md : Nat → Int32) (mdd : Int32) : Option ((Nat → Int32) × Int32) :=
  itr3 (p_X6_bytesTo_L3 v1 v3 ) fu (nI 0) md mdd
def p_X6_var_L2  (k2 : Int64 → (Nat → Int32) → Int32 → Option ((Nat → Int32) × Int32)) (v3 : Int64) (md : Nat → Int32) (mdd : Int32) : Option ((Nat → Int32) × Int32) :=
  if (v3 &&& (-128 : Int64)) = (lN 0) then
    bd2 (p_X6_byteTo (l2i v3) md mdd) <| fun md_1 mdd_2 =>
    some (md_1, mdd_2)
  else
    bd2 (p_X6_byteTo ((l2i (v3 &&& (lN 127))) ||| (nI 128)) md mdd) <| fun md_4 mdd_5 =>
    k2 (lushr v3 (nI 7)) md_4 mdd_5
def p_X6_var (v1 : Int64) (md : Nat → Int32) (mdd : Int32) : Option ((Nat → Int32) × Int32) :=
  itr3 (p_X6_var_L2  ) fu v1 md mdd
def p_X6_zig (v1 : Int64) (md : Nat → Int32) (mdd : Int32) : Option ((Nat → Int32) × Int32) :=
  bd2 (p_X6_var ((lshl v1 (nI 1)) ^^^ (lshr v1 (nI 63))) md mdd) <| fun md_1 mdd_2 =>
  some (md_1, mdd_2)
def p_X6_pack_J50 (v5 : Int32) (v6 : Int32) (v8 : Int32) (s0 : Int32) (md : Nat → Int32) (mdd : Int32) (k20 : Int32 → Int32 → Int32 → (Nat → Int32) → Int32 → Option ((Nat → Int32) × Int32)) : Option ((Nat → Int32) × Int32) :=
  if (v5 + (nI 1)) = (nI 8) then
    bd2 (p_X6_byteTo (v6 ||| (ishl s0 v5)) md mdd) <| fun md_2 mdd_3 =>
    k20 (nI 0) (nI 0) (v8 + (nI 1)) md_2 mdd_3
  else
    k20 (v5 + (nI 1)) (v6 ||| (ishl s0 v5)) (v8 + (nI 1)) md mdd
def p_X6_pack_L20 (v3 : Int32) (v4 : Int32) (v7 : Int32) (mn : Nat → Int64) (k90 : Int32 → Int32 → (Nat → Int32) → Int32 → Option ((Nat → Int32) × Int32)) (k20 : Int32 → Int32 → Int32 → (Nat → Int32) → Int32 → Option ((Nat → Int32) × Int32)) (v5 : Int32) (v6 : Int32) (v8 : Int32) (md : Nat → Int32) (mdd : Int32) : Option ((Nat → Int32) × Int32) :=
  if v8 < v4 then
    if v7 < v3 then
      gd (inb v7 500) <|
      p_X6_pack_J50 v5 v6 v8 (l2i ((lushr (mn (ix v7)) v8) &&& (lN 1))) md mdd k20
    else
      p_X6_pack_J50 v5 v6 v8 (nI 0) md mdd k20
  else
    k90 v5 v6 md mdd
def p_X6_pack_L9 (v1 : Int32) (v2 : Int32) (v3 : Int32) (v4 : Int32) (mn : Nat → Int64) (k96 : Int32 → Int32 → (Nat → Int32) → Int32 → Option ((Nat → Int32) × Int32)) (k9 : Int32 → Int32 → Int32 → (Nat → Int32) → Int32 → Option ((Nat → Int32) × Int32)) (v5 : Int32) (v6 : Int32) (v7 : Int32) (md : Nat → Int32) (mdd : Int32) : Option ((Nat → Int32) × Int32) :=
  if v7 < (v1 + v2) then
    itr5 (p_X6_pack_L20 v3 v4 v7 mn (fun v5_5 v6_6 md_7 mdd_8 =>
        k9 v5_5 v6_6 (v7 + (nI 1)) md_7 mdd_8)) fu v5 v6 (nI 0) md mdd
  else
    k96 v5 v6 md mdd
def p_X6_pack (v1 : Int32) (v2 : Int32) (v3 : Int32) (v4 : Int32) (md : Nat → Int32) (mdd : Int32) (mn : Nat → Int64) : Option ((Nat → Int32) × Int32) :=
  itr5 (p_X6_pack_L9 v1 v2 v3 v4 mn (fun v5_9 v6_10 md_11 mdd_12 =>
      if (nI 0) < v5_9 then
        bd2 (p_X6_byteTo v6_10 md_11 mdd_12) <| fun md_13 mdd_14 =>
        some (md_13, mdd_14)
      else
        some (md_11, mdd_12))) fu (nI 0) (nI 0) v1 md mdd
def p_X6_alikeFrom_L2 (v1 : Int32) (v2 : Int32) (mn : Nat → Int64) (k2 : Int32 → Option (Int32)) (v3 : Int32) : Option (Int32) :=
  if v3 < v2 then
    gd (inb v3 500) <|
    gd (inb v1 500) <|
    if (mn (ix v3)) = (mn (ix v1)) then
      k2 (v3 + (nI 1))
    else
      some ((v3 - v1))
  else
    some ((v3 - v1))
def p_X6_alikeFrom (v1 : Int32) (v2 : Int32) (mn : Nat → Int64) : Option (Int32) :=
  itr1 (p_X6_alikeFrom_L2 v1 v2 mn ) fu v1
def p_X6_runs_L61 (v1 : Int32) (v3 : Int32) (mn : Nat → Int64) (k95 : Int32 → Option ((Nat → Int32) × Int32)) (k61 : Int32 → Option ((Nat → Int32) × Int32)) (v5 : Int32) : Option ((Nat → Int32) × Int32) :=
  if (v3 + ((nI 8) * v5)) < v1 then
    bd1 (p_X6_alikeFrom (v3 + ((nI 8) * v5)) v1 mn) <| fun a_3 =>
    if a_3 < (nI 8) then
      k61 (v5 + (nI 1))
    else
      k95 v5
  else
    k95 v5
def p_X6_runs_J95 (v1 : Int32) (v2 : Int32) (v3 : Int32) (v5 : Int32) (md : Nat → Int32) (mdd : Int32) (mn : Nat → Int64) (k2 : Int32 → (Nat → Int32) → Int32 → Option ((Nat → Int32) × Int32)) : Option ((Nat → Int32) × Int32) :=
  bd2 (p_X6_var (((lN 2) * (i2l v5)) + (lN 1)) md mdd) <| fun md_6 mdd_7 =>
  bd2 (p_X6_pack v3 ((nI 8) * v5) v1 v2 md_6 mdd_7 mn) <| fun md_9 mdd_10 =>
  k2 (v3 + ((nI 8) * v5)) md_9 mdd_10
def p_X6_runs_L2 (v1 : Int32) (v2 : Int32) (mn : Nat → Int64) (k2 : Int32 → (Nat → Int32) → Int32 → Option ((Nat → Int32) × Int32)) (v3 : Int32) (md : Nat → Int32) (mdd : Int32) : Option ((Nat → Int32) × Int32) :=
  if v3 < v1 then
    bd1 (p_X6_alikeFrom v3 v1 mn) <| fun a_1 =>
    if a_1 < (nI 8) then
      itr1 (p_X6_runs_L61 v1 v3 mn (fun v5_5 =>
          p_X6_runs_J95 v1 v2 v3 v5_5 md mdd mn k2)) fu (nI 1)
    else
      bd2 (p_X6_var ((lN 2) * (i2l a_1)) md mdd) <| fun md_12 mdd_13 =>
      gd (inb v3 500) <|
      bd2 (p_X6_bytesTo (mn (ix v3)) ((v2 + (nI 7)) / (nI 8)) md_12 mdd_13) <| fun md_16 mdd_17 =>
      k2 (v3 + a_1) md_16 mdd_17
  else
    some (md, mdd)
def p_X6_runs (v1 : Int32) (v2 : Int32) (md : Nat → Int32) (mdd : Int32) (mn : Nat → Int64) : Option ((Nat → Int32) × Int32) :=
  itr3 (p_X6_runs_L2 v1 v2 mn ) fu (nI 0) md mdd
def p_X6_widthOf_L4  (k4 : Int32 → Int64 → Option (Int32)) (v2 : Int32) (v3 : Int64) : Option (Int32) :=
  if v3 = (lN 0) then
    some (v2)
  else
    k4 (v2 + (nI 1)) (lushr v3 (nI 1))
def p_X6_widthOf (v0 : Int64) : Option (Int32) :=
  itr2 (p_X6_widthOf_L4  ) fu (nI 0) v0
def p_X6_partWidth_L5 (v1 : Int32) (v2 : Int32) (mn : Nat → Int64) (k5 : Int32 → Int32 → Option (Int32)) (v3 : Int32) (v4 : Int32) : Option (Int32) :=
  if v4 < (v1 + (nI 32)) then
    if v4 < v2 then
      gd (inb v4 500) <|
      bd1 (p_X6_widthOf (mn (ix v4))) <| fun a_2 =>
      if v3 < a_2 then
        gd (inb v4 500) <|
        bd1 (p_X6_widthOf (mn (ix v4))) <| fun a_5 =>
        k5 a_5 (v4 + (nI 1))
      else
        k5 v3 (v4 + (nI 1))
    else
      some (v3)
  else
    some (v3)
def p_X6_partWidth (v1 : Int32) (v2 : Int32) (mn : Nat → Int64) : Option (Int32) :=
  itr2 (p_X6_partWidth_L5 v1 v2 mn ) fu (nI 0) v1
def p_X6_differences_L40 (v1 : Int32) (v2 : Int32) (mn : Nat → Int64) (k99 : (Nat → Int64) → Option ((Nat → Int32) × Int32 × (Nat → Int64) × (Nat → Int64))) (k40 : Int32 → (Nat → Int64) → Option ((Nat → Int32) × Int32 × (Nat → Int64) × (Nat → Int64))) (v3 : Int32) (mst : Nat → Int64) : Option ((Nat → Int32) × Int32 × (Nat → Int64) × (Nat → Int64)) :=
  if v3 < v1 then
    if v2 = (nI 0) then
      gd (inb v3 500) <|
      gd (inb (v3 - (nI 1)) 500) <|
      gd (inb (v3 - (nI 1)) 500) <|
      k40 (v3 + (nI 1)) (up mst (ix (v3 - (nI 1))) ((mn (ix v3)) - (mn (ix (v3 - (nI 1))))))
    else
      gd (inb v3 500) <|
      gd (inb (v3 - (nI 1)) 500) <|
      gd (inb (v3 - (nI 1)) 500) <|
      k40 (v3 + (nI 1)) (up mst (ix (v3 - (nI 1))) (i2l ((l2i (mn (ix v3))) - (l2i (mn (ix (v3 - (nI 1))))))))
  else
    k99 mst
def p_X6_differences_L143 (v4 : Int32) (mst : Nat → Int64) (k183 : Int64 → Option ((Nat → Int32) × Int32 × (Nat → Int64) × (Nat → Int64))) (k143 : Int64 → Int32 → Option ((Nat → Int32) × Int32 × (Nat → Int64) × (Nat → Int64))) (v5 : Int64) (v7 : Int32) : Option ((Nat → Int32) × Int32 × (Nat → Int64) × (Nat → Int64)) :=
  if v7 < v4 then
    gd (inb v7 500) <|
    if (mst (ix v7)) < v5 then
      gd (inb v7 500) <|
      k143 (mst (ix v7)) (v7 + (nI 1))
    else
      k143 v5 (v7 + (nI 1))
  else
    k183 v5
def p_X6_differences_L192 (v2 : Int32) (v4 : Int32) (v5 : Int64) (mst : Nat → Int64) (k243 : (Nat → Int64) → Option ((Nat → Int32) × Int32 × (Nat → Int64) × (Nat → Int64))) (k192 : Int32 → (Nat → Int64) → Option ((Nat → Int32) × Int32 × (Nat → Int64) × (Nat → Int64))) (v7 : Int32) (mn : Nat → Int64) : Option ((Nat → Int32) × Int32 × (Nat → Int64) × (Nat → Int64)) :=
  if v7 < v4 then
    if v2 = (nI 0) then
      gd (inb v7 500) <|
      gd (inb v7 500) <|
      k192 (v7 + (nI 1)) (up mn (ix v7) ((mst (ix v7)) - v5))
    else
      gd (inb v7 500) <|
      gd (inb v7 500) <|
      k192 (v7 + (nI 1)) (up mn (ix v7) (((mst (ix v7)) - v5) &&& (lN 4294967295)))
  else
    k243 mn
def p_X6_differences_L246 (v3 : Int32) (v4 : Int32) (mn : Nat → Int64) (k275 : (Nat → Int32) → Int32 → Option ((Nat → Int32) × Int32 × (Nat → Int64) × (Nat → Int64))) (k246 : Int32 → (Nat → Int32) → Int32 → Option ((Nat → Int32) × Int32 × (Nat → Int64) × (Nat → Int64))) (v7 : Int32) (md : Nat → Int32) (mdd : Int32) : Option ((Nat → Int32) × Int32 × (Nat → Int64) × (Nat → Int64)) :=
  if v7 < (nI 4) then
    bd1 (p_X6_partWidth (v3 + ((nI 32) * v7)) v4 mn) <| fun a_32 =>
    bd2 (p_X6_byteTo a_32 md mdd) <| fun md_34 mdd_35 =>
    k246 (v7 + (nI 1)) md_34 mdd_35
  else
    k275 md mdd
def p_X6_differences_L278 (v3 : Int32) (v4 : Int32) (mn : Nat → Int64) (k330 : (Nat → Int32) → Int32 → Option ((Nat → Int32) × Int32 × (Nat → Int64) × (Nat → Int64))) (k278 : Int32 → (Nat → Int32) → Int32 → Option ((Nat → Int32) × Int32 × (Nat → Int64) × (Nat → Int64))) (v7 : Int32) (md : Nat → Int32) (mdd : Int32) : Option ((Nat → Int32) × Int32 × (Nat → Int64) × (Nat → Int64)) :=
  if v7 < (nI 4) then
    if (v3 + ((nI 32) * v7)) < v4 then
      bd1 (p_X6_partWidth (v3 + ((nI 32) * v7)) v4 mn) <| fun a_39 =>
      bd2 (p_X6_pack (v3 + ((nI 32) * v7)) (nI 32) v4 a_39 md mdd mn) <| fun md_41 mdd_42 =>
      k278 (v7 + (nI 1)) md_41 mdd_42
    else
      k278 (v7 + (nI 1)) md mdd
  else
    k330 md mdd
def p_X6_differences_L101 (v1 : Int32) (v2 : Int32) (mst : Nat → Int64) (k101 : Int32 → (Nat → Int32) → Int32 → (Nat → Int64) → Option ((Nat → Int32) × Int32 × (Nat → Int64) × (Nat → Int64))) (v3 : Int32) (md : Nat → Int32) (mdd : Int32) (mn : Nat → Int64) : Option ((Nat → Int32) × Int32 × (Nat → Int64) × (Nat → Int64)) :=
  if v3 < (v1 - (nI 1)) then
    if (v3 + (nI 128)) < (v1 - (nI 1)) then
      gd (inb v3 500) <|
      itr2 (p_X6_differences_L143 (v3 + (nI 128)) mst (fun v5_23 =>
          bd2 (p_X6_zig v5_23 md mdd) <| fun md_24 mdd_25 =>
          itr2 (p_X6_differences_L192 v2 (v3 + (nI 128)) v5_23 mst (fun mn_31 =>
              itr3 (p_X6_differences_L246 v3 (v3 + (nI 128)) mn_31 (fun md_37 mdd_38 =>
                  itr3 (p_X6_differences_L278 v3 (v3 + (nI 128)) mn_31 (fun md_44 mdd_45 =>
                      k101 (v3 + (nI 128)) md_44 mdd_45 mn_31)) fu (nI 0) md_37 mdd_38)) fu (nI 0) md_24 mdd_25)) fu v3 mn)) fu (mst (ix v3)) v3
    else
      gd (inb v3 500) <|
      itr2 (p_X6_differences_L143 (v1 - (nI 1)) mst (fun v5_47 =>
          bd2 (p_X6_zig v5_47 md mdd) <| fun md_48 mdd_49 =>
          itr2 (p_X6_differences_L192 v2 (v1 - (nI 1)) v5_47 mst (fun mn_51 =>
              itr3 (p_X6_differences_L246 v3 (v1 - (nI 1)) mn_51 (fun md_52 mdd_53 =>
                  itr3 (p_X6_differences_L278 v3 (v1 - (nI 1)) mn_51 (fun md_54 mdd_55 =>
                      k101 (v3 + (nI 128)) md_54 mdd_55 mn_51)) fu (nI 0) md_52 mdd_53)) fu (nI 0) md_48 mdd_49)) fu v3 mn)) fu (mst (ix v3)) v3
  else
    some (md, mdd, mn, mst)
def p_X6_differences (v1 : Int32) (v2 : Int32) (md : Nat → Int32) (mdd : Int32) (mn : Nat → Int64) (mst : Nat → Int64) : Option ((Nat → Int32) × Int32 × (Nat → Int64) × (Nat → Int64)) :=
  bd2 (p_X6_var (lN 128) md mdd) <| fun md_1 mdd_2 =>
  bd2 (p_X6_var (lN 4) md_1 mdd_2) <| fun md_4 mdd_5 =>
  bd2 (p_X6_var (i2l v1) md_4 mdd_5) <| fun md_7 mdd_8 =>
  if v1 = (nI 0) then
    bd2 (p_X6_zig (lN 0) md_7 mdd_8) <| fun md_10 mdd_11 =>
    itr2 (p_X6_differences_L40 v1 v2 mn (fun mst_19 =>
        itr4 (p_X6_differences_L101 v1 v2 mst_19 ) fu (nI 0) md_10 mdd_11 mn)) fu (nI 1) mst
  else
    gd (inb (nI 0) 500) <|
    bd2 (p_X6_zig (mn (ix (nI 0))) md_7 mdd_8) <| fun md_57 mdd_58 =>
    itr2 (p_X6_differences_L40 v1 v2 mn (fun mst_60 =>
        itr4 (p_X6_differences_L101 v1 v2 mst_60 ) fu (nI 0) md_57 mdd_58 mn)) fu (nI 1) mst
def p_X6_letters_L2 (v1 : Int32) (mv : Nat → Int64) (mx : Nat → Int32) (k2 : Int32 → (Nat → Int32) → Int32 → Option ((Nat → Int32) × Int32)) (v2 : Int32) (md : Nat → Int32) (mdd : Int32) : Option ((Nat → Int32) × Int32) :=
  gd (inb v1 1400) <|
  if (i2l v2) < (mv (ix v1)) then
    gd (inb (((nI 40) * v1) + v2) 56000) <|
    bd2 (p_X6_byteTo (mx (ix (((nI 40) * v1) + v2))) md mdd) <| fun md_3 mdd_4 =>
    k2 (v2 + (nI 1)) md_3 mdd_4
  else
    some (md, mdd)
def p_X6_letters (v1 : Int32) (mv : Nat → Int64) (mx : Nat → Int32) (md : Nat → Int32) (mdd : Int32) : Option ((Nat → Int32) × Int32) :=
  itr3 (p_X6_letters_L2 v1 mv mx ) fu (nI 0) md mdd
def p_X6_plain (v1 : Int32) (v2 : Int32) (mv : Nat → Int64) (mx : Nat → Int32) (md : Nat → Int32) (mdd : Int32) : Option ((Nat → Int32) × Int32) :=
  if v2 = (nI 2) then
    gd (inb v1 1400) <|
    bd2 (p_X6_bytesTo (mv (ix v1)) (nI 4) md mdd) <| fun md_2 mdd_3 =>
    bd2 (p_X6_letters v1 mv mx md_2 mdd_3) <| fun md_5 mdd_6 =>
    some (md_5, mdd_6)
  else
    gd (inb v1 1400) <|
    if v2 = (nI 0) then
      bd2 (p_X6_bytesTo (mv (ix v1)) (nI 4) md mdd) <| fun md_9 mdd_10 =>
      some (md_9, mdd_10)
    else
      bd2 (p_X6_bytesTo (mv (ix v1)) (nI 8) md mdd) <| fun md_12 mdd_13 =>
      some (md_12, mdd_13)
def p_X6_head_J48 (v3 : Int32) (v4 : Int32) (s1 : Int32) (md : Nat → Int32) (mdd : Int32) : Option ((Nat → Int32) × Int32) :=
  bd2 (p_X6_byteTo s1 md mdd) <| fun md_19 mdd_20 =>
  bd2 (p_X6_byteTo (nI 21) md_19 mdd_20) <| fun md_22 mdd_23 =>
  bd2 (p_X6_zig (i2l v3) md_22 mdd_23) <| fun md_25 mdd_26 =>
  bd2 (p_X6_byteTo (nI 21) md_25 mdd_26) <| fun md_28 mdd_29 =>
  bd2 (p_X6_zig (i2l v4) md_28 mdd_29) <| fun md_31 mdd_32 =>
  bd2 (p_X6_byteTo (nI 0) md_31 mdd_32) <| fun md_34 mdd_35 =>
  bd2 (p_X6_byteTo (nI 0) md_34 mdd_35) <| fun md_37 mdd_38 =>
  some (md_37, mdd_38)
def p_X6_head (v1 : Int32) (v2 : Int32) (v3 : Int32) (v4 : Int32) (md : Nat → Int32) (mdd : Int32) : Option ((Nat → Int32) × Int32) :=
  bd2 (p_X6_byteTo (nI 21) md mdd) <| fun md_1 mdd_2 =>
  bd2 (p_X6_zig (i2l v1) md_1 mdd_2) <| fun md_4 mdd_5 =>
  bd2 (p_X6_byteTo (nI 21) md_4 mdd_5) <| fun md_7 mdd_8 =>
  bd2 (p_X6_zig (i2l v2) md_7 mdd_8) <| fun md_10 mdd_11 =>
  bd2 (p_X6_byteTo (nI 21) md_10 mdd_11) <| fun md_13 mdd_14 =>
  bd2 (p_X6_zig (i2l v2) md_13 mdd_14) <| fun md_16 mdd_17 =>
  if v1 = (nI 0) then
    p_X6_head_J48 v3 v4 (nI 44) md_16 mdd_17
  else
    p_X6_head_J48 v3 v4 (nI 76) md_16 mdd_17
def p_X6_makeDictionary_L39 (v3 : Int32) (mm : Nat → Int32) (mt : Nat → Int32) (mv : Nat → Int64) (mx : Nat → Int32) (k70 : Int32 → Option ((Nat → Int32) × (Nat → Int32) × (Nat → Int64) × (Nat → Int32) × (Nat → Int32))) (k39 : Int32 → Option ((Nat → Int32) × (Nat → Int32) × (Nat → Int64) × (Nat → Int32) × (Nat → Int32))) (v4 : Int32) : Option ((Nat → Int32) × (Nat → Int32) × (Nat → Int64) × (Nat → Int32) × (Nat → Int32)) :=
  gd (inb (nI 5) 7) <|
  if v4 < (mm (ix (nI 5))) then
    bd1 (p_X6_areLike ((nI 1000) + v4) v3 mt mv mx) <| fun a_5 =>
    if a_5 = (nI 0) then
      k39 (v4 + (nI 1))
    else
      k70 v4
  else
    k70 v4
def p_X6_makeDictionary_J70 (v2 : Int32) (v3 : Int32) (v4 : Int32) (mm : Nat → Int32) (mt : Nat → Int32) (mv : Nat → Int64) (mx : Nat → Int32) (mpl : Nat → Int32) (k9 : Int32 → (Nat → Int32) → (Nat → Int32) → (Nat → Int64) → (Nat → Int32) → (Nat → Int32) → Option ((Nat → Int32) × (Nat → Int32) × (Nat → Int64) × (Nat → Int32) × (Nat → Int32))) : Option ((Nat → Int32) × (Nat → Int32) × (Nat → Int64) × (Nat → Int32) × (Nat → Int32)) :=
  gd (inb (nI 5) 7) <|
  if v4 = (mm (ix (nI 5))) then
    bd3 (p_X6_copies ((nI 1000) + v4) v3 mt mv mx) <| fun mt_9 mv_10 mx_11 =>
    gd (inb (nI 5) 7) <|
    gd (inb (nI 5) 7) <|
    gd (inb v2 200) <|
    k9 (v2 + (nI 1)) (up mm (ix (nI 5)) ((mm (ix (nI 5))) + (nI 1))) mt_9 mv_10 mx_11 (up mpl (ix v2) v4)
  else
    gd (inb v2 200) <|
    k9 (v2 + (nI 1)) mm mt mv mx (up mpl (ix v2) v4)
def p_X6_makeDictionary_L9 (v1 : Int32) (k9 : Int32 → (Nat → Int32) → (Nat → Int32) → (Nat → Int64) → (Nat → Int32) → (Nat → Int32) → Option ((Nat → Int32) × (Nat → Int32) × (Nat → Int64) × (Nat → Int32) × (Nat → Int32))) (v2 : Int32) (mm : Nat → Int32) (mt : Nat → Int32) (mv : Nat → Int64) (mx : Nat → Int32) (mpl : Nat → Int32) : Option ((Nat → Int32) × (Nat → Int32) × (Nat → Int64) × (Nat → Int32) × (Nat → Int32)) :=
  gd (inb v1 7) <|
  if v2 < (mm (ix v1)) then
    gd (inb (((nI 200) * v1) + v2) 1400) <|
    if (mt (ix (((nI 200) * v1) + v2))) = (nI 0) then
      k9 (v2 + (nI 1)) mm mt mv mx mpl
    else
      itr1 (p_X6_makeDictionary_L39 (((nI 200) * v1) + v2) mm mt mv mx (fun v4_7 =>
          p_X6_makeDictionary_J70 v2 (((nI 200) * v1) + v2) v4_7 mm mt mv mx mpl k9)) fu (nI 0)
  else
    some (mm, mt, mv, mx, mpl)
def p_X6_makeDictionary (v1 : Int32) (mm : Nat → Int32) (mt : Nat → Int32) (mv : Nat → Int64) (mx : Nat → Int32) (mpl : Nat → Int32) : Option ((Nat → Int32) × (Nat → Int32) × (Nat → Int64) × (Nat → Int32) × (Nat → Int32)) :=
  gd (inb (nI 5) 7) <|
  itr6 (p_X6_makeDictionary_L9 v1 ) fu (nI 0) (up mm (ix (nI 5)) (nI 0)) mt mv mx mpl
def p_X6_headed_L11 (v1 : Int32) (v5 : Int32) (md : Nat → Int32) (k40 : (Nat → Int32) → Option ((Nat → Int32) × Int32 × (Nat → Int32))) (k11 : Int32 → (Nat → Int32) → Option ((Nat → Int32) × Int32 × (Nat → Int32))) (v6 : Int32) (mbb : Nat → Int32) : Option ((Nat → Int32) × Int32 × (Nat → Int32)) :=
  if v6 < v5 then
    gd (inb (v1 + v6) 60000) <|
    gd (inb v6 20000) <|
    k11 (v6 + (nI 1)) (up mbb (ix v6) (b8 (md (ix (v1 + v6)))))
  else
    k40 mbb
def p_X6_headed_L58 (v5 : Int32) (mbb : Nat → Int32) (k58 : Int32 → (Nat → Int32) → Int32 → Option ((Nat → Int32) × Int32 × (Nat → Int32))) (v6 : Int32) (md : Nat → Int32) (mdd : Int32) : Option ((Nat → Int32) × Int32 × (Nat → Int32)) :=
  if v6 < v5 then
    gd (inb v6 20000) <|
    bd2 (p_X6_byteTo (mbb (ix v6)) md mdd) <| fun md_8 mdd_9 =>
    k58 (v6 + (nI 1)) md_8 mdd_9
  else
    some (md, mdd, mbb)
def p_X6_headed (v1 : Int32) (v2 : Int32) (v3 : Int32) (v4 : Int32) (md : Nat → Int32) (mdd : Int32) (mbb : Nat → Int32) : Option ((Nat → Int32) × Int32 × (Nat → Int32)) :=
  itr2 (p_X6_headed_L11 v1 (mdd - v1) md (fun mbb_3 =>
      bd2 (p_X6_head v2 (mdd - v1) v3 v4 md v1) <| fun md_4 mdd_5 =>
      itr3 (p_X6_headed_L58 (mdd - v1) mbb_3 ) fu (nI 0) md_4 mdd_5)) fu (nI 0) mbb
def p_X6_sized_L9 (v1 : Int32) (v2 : Int32) (md : Nat → Int32) (k34 : (Nat → Int32) → Option ((Nat → Int32) × Int32 × (Nat → Int32))) (k9 : Int32 → (Nat → Int32) → Option ((Nat → Int32) × Int32 × (Nat → Int32))) (v3 : Int32) (mbb : Nat → Int32) : Option ((Nat → Int32) × Int32 × (Nat → Int32)) :=
  if v3 < v2 then
    gd (inb (v1 + v3) 60000) <|
    gd (inb v3 20000) <|
    k9 (v3 + (nI 1)) (up mbb (ix v3) (b8 (md (ix (v1 + v3)))))
  else
    k34 mbb
def p_X6_sized_L48 (v2 : Int32) (mbb : Nat → Int32) (k48 : Int32 → (Nat → Int32) → Int32 → Option ((Nat → Int32) × Int32 × (Nat → Int32))) (v3 : Int32) (md : Nat → Int32) (mdd : Int32) : Option ((Nat → Int32) × Int32 × (Nat → Int32)) :=
  if v3 < v2 then
    gd (inb v3 20000) <|
    bd2 (p_X6_byteTo (mbb (ix v3)) md mdd) <| fun md_8 mdd_9 =>
    k48 (v3 + (nI 1)) md_8 mdd_9
  else
    some (md, mdd, mbb)
def p_X6_sized (v1 : Int32) (md : Nat → Int32) (mdd : Int32) (mbb : Nat → Int32) : Option ((Nat → Int32) × Int32 × (Nat → Int32)) :=
  itr2 (p_X6_sized_L9 v1 (mdd - v1) md (fun mbb_3 =>
      bd2 (p_X6_bytesTo (i2l (mdd - v1)) (nI 4) md v1) <| fun md_4 mdd_5 =>
      itr3 (p_X6_sized_L48 (mdd - v1) mbb_3 ) fu (nI 0) md_4 mdd_5)) fu (nI 0) mbb
def p_X6_page_L132 (v1 : Int32) (v4 : Int32) (v7 : Int32) (mt : Nat → Int32) (mv : Nat → Int64) (mpl : Nat → Int32) (k202 : Int32 → (Nat → Int64) → Option ((Nat → Int32) × Int32 × (Nat → Int64) × (Nat → Int64) × (Nat → Int32))) (k132 : Int32 → Int32 → (Nat → Int64) → Option ((Nat → Int32) × Int32 × (Nat → Int64) × (Nat → Int64) × (Nat → Int32))) (v6 : Int32) (v8 : Int32) (mn : Nat → Int64) : Option ((Nat → Int32) × Int32 × (Nat → Int64) × (Nat → Int64) × (Nat → Int32)) :=
  if v8 < v4 then
    gd (inb (((nI 200) * v1) + v8) 1400) <|
    if (mt (ix (((nI 200) * v1) + v8))) = (nI 0) then
      k132 v6 (v8 + (nI 1)) mn
    else
      if v7 = (nI 8) then
        gd (inb v8 200) <|
        gd (inb v6 500) <|
        k132 (v6 + (nI 1)) (v8 + (nI 1)) (up mn (ix v6) (i2l (mpl (ix v8))))
      else
        gd (inb (((nI 200) * v1) + v8) 1400) <|
        gd (inb v6 500) <|
        k132 (v6 + (nI 1)) (v8 + (nI 1)) (up mn (ix v6) (mv (ix (((nI 200) * v1) + v8))))
  else
    k202 v6 mn
def p_X6_page_J385 (v1 : Int32) (v7 : Int32) (v9 : Int32) (mk : Nat → Int32) (mt : Nat → Int32) (mv : Nat → Int64) (mx : Nat → Int32) (md : Nat → Int32) (mdd : Int32) (k340 : Int32 → (Nat → Int32) → Int32 → Option ((Nat → Int32) × Int32 × (Nat → Int64) × (Nat → Int64) × (Nat → Int32))) : Option ((Nat → Int32) × Int32 × (Nat → Int64) × (Nat → Int64) × (Nat → Int32)) :=
  gd (inb (((nI 200) * v1) + v9) 1400) <|
  if (mt (ix (((nI 200) * v1) + v9))) = (nI 0) then
    k340 (v9 + (nI 1)) md mdd
  else
    if v7 = (nI 0) then
      gd (inb v1 7) <|
      if (mk (ix v1)) = (nI 3) then
        k340 (v9 + (nI 1)) md mdd
      else
        gd (inb v1 7) <|
        bd2 (p_X6_plain (((nI 200) * v1) + v9) (mk (ix v1)) mv mx md mdd) <| fun md_20 mdd_21 =>
        k340 (v9 + (nI 1)) md_20 mdd_21
    else
      k340 (v9 + (nI 1)) md mdd
def p_X6_page_L340 (v1 : Int32) (v4 : Int32) (v7 : Int32) (mk : Nat → Int32) (mt : Nat → Int32) (mv : Nat → Int64) (mx : Nat → Int32) (k440 : (Nat → Int32) → Int32 → Option ((Nat → Int32) × Int32 × (Nat → Int64) × (Nat → Int64) × (Nat → Int32))) (k340 : Int32 → (Nat → Int32) → Int32 → Option ((Nat → Int32) × Int32 × (Nat → Int64) × (Nat → Int64) × (Nat → Int32))) (v9 : Int32) (md : Nat → Int32) (mdd : Int32) : Option ((Nat → Int32) × Int32 × (Nat → Int64) × (Nat → Int64) × (Nat → Int32)) :=
  if v9 < v4 then
    gd (inb (((nI 200) * v1) + v9) 1400) <|
    if (mt (ix (((nI 200) * v1) + v9))) = (nI 0) then
      p_X6_page_J385 v1 v7 v9 mk mt mv mx md mdd k340
    else
      if v7 = (nI 6) then
        bd2 (p_X6_letters (((nI 200) * v1) + v9) mv mx md mdd) <| fun md_23 mdd_24 =>
        k340 (v9 + (nI 1)) md_23 mdd_24
      else
        p_X6_page_J385 v1 v7 v9 mk mt mv mx md mdd k340
  else
    k440 md mdd
def p_X6_page_J241 (v1 : Int32) (v3 : Int32) (v4 : Int32) (v5 : Int32) (v6 : Int32) (v7 : Int32) (s0 : Int32) (mk : Nat → Int32) (mt : Nat → Int32) (mv : Nat → Int64) (mx : Nat → Int32) (md : Nat → Int32) (mdd : Int32) (mn : Nat → Int64) (mst : Nat → Int64) (mbb : Nat → Int32) : Option ((Nat → Int32) × Int32 × (Nat → Int64) × (Nat → Int64) × (Nat → Int32)) :=
  bd2 (p_X6_byteTo s0 md mdd) <| fun md_10 mdd_11 =>
  bd2 (p_X6_runs v6 s0 md_10 mdd_11 mn) <| fun md_13 mdd_14 =>
  itr3 (p_X6_page_L340 v1 v4 v7 mk mt mv mx (fun md_26 mdd_27 =>
      bd3 (p_X6_headed v5 (nI 0) (v4 - v3) v7 md_26 mdd_27 mbb) <| fun md_28 mdd_29 mbb_30 =>
      some (md_28, mdd_29, mn, mst, mbb_30))) fu v3 md_13 mdd_14
def p_X6_page_J76 (v1 : Int32) (v2 : Int32) (v3 : Int32) (v4 : Int32) (v5 : Int32) (mk : Nat → Int32) (mm : Nat → Int32) (mt : Nat → Int32) (mv : Nat → Int64) (mx : Nat → Int32) (md : Nat → Int32) (mdd : Int32) (mn : Nat → Int64) (mst : Nat → Int64) (mpl : Nat → Int32) (mbb : Nat → Int32) : Option ((Nat → Int32) × Int32 × (Nat → Int64) × (Nat → Int64) × (Nat → Int32)) :=
  if v2 = (nI 0) then
    itr3 (p_X6_page_L132 v1 v4 (nI 0) mt mv mpl (fun v6_7 mn_8 =>
        if (nI 0) = (nI 8) then
          gd (inb (nI 5) 7) <|
          if (mm (ix (nI 5))) < (nI 2) then
            p_X6_page_J241 v1 v3 v4 v5 v6_7 (nI 0) (nI 0) mk mt mv mx md mdd mn_8 mst mbb
          else
            gd (inb (nI 5) 7) <|
            bd1 (p_X6_widthOf (i2l ((mm (ix (nI 5))) - (nI 1)))) <| fun a_33 =>
            p_X6_page_J241 v1 v3 v4 v5 v6_7 (nI 0) a_33 mk mt mv mx md mdd mn_8 mst mbb
        else
          if (nI 0) = (nI 3) then
            bd2 (p_X6_runs v6_7 (nI 1) md mdd mn_8) <| fun md_35 mdd_36 =>
            bd3 (p_X6_sized mdd md_35 mdd_36 mbb) <| fun md_38 mdd_39 mbb_40 =>
            itr3 (p_X6_page_L340 v1 v4 (nI 0) mk mt mv mx (fun md_42 mdd_43 =>
                bd3 (p_X6_headed v5 (nI 0) (v4 - v3) (nI 0) md_42 mdd_43 mbb_40) <| fun md_44 mdd_45 mbb_46 =>
                some (md_44, mdd_45, mn_8, mst, mbb_46))) fu v3 md_38 mdd_39
          else
            if (nI 0) < (nI 0) then
              if (nI 0) = (nI 6) then
                bd4 (p_X6_differences v6_7 (nI 1) md mdd mn_8 mst) <| fun md_48 mdd_49 mn_50 mst_51 =>
                itr3 (p_X6_page_L340 v1 v4 (nI 0) mk mt mv mx (fun md_53 mdd_54 =>
                    bd3 (p_X6_headed v5 (nI 0) (v4 - v3) (nI 0) md_53 mdd_54 mbb) <| fun md_55 mdd_56 mbb_57 =>
                    some (md_55, mdd_56, mn_50, mst_51, mbb_57))) fu v3 md_48 mdd_49
              else
                gd (inb v1 7) <|
                if (mk (ix v1)) = (nI 0) then
                  bd4 (p_X6_differences v6_7 (nI 1) md mdd mn_8 mst) <| fun md_60 mdd_61 mn_62 mst_63 =>
                  itr3 (p_X6_page_L340 v1 v4 (nI 0) mk mt mv mx (fun md_65 mdd_66 =>
                      bd3 (p_X6_headed v5 (nI 0) (v4 - v3) (nI 0) md_65 mdd_66 mbb) <| fun md_67 mdd_68 mbb_69 =>
                      some (md_67, mdd_68, mn_62, mst_63, mbb_69))) fu v3 md_60 mdd_61
                else
                  bd4 (p_X6_differences v6_7 (nI 0) md mdd mn_8 mst) <| fun md_71 mdd_72 mn_73 mst_74 =>
                  itr3 (p_X6_page_L340 v1 v4 (nI 0) mk mt mv mx (fun md_76 mdd_77 =>
                      bd3 (p_X6_headed v5 (nI 0) (v4 - v3) (nI 0) md_76 mdd_77 mbb) <| fun md_78 mdd_79 mbb_80 =>
                      some (md_78, mdd_79, mn_73, mst_74, mbb_80))) fu v3 md_71 mdd_72
            else
              gd (inb v1 7) <|
              if (mk (ix v1)) = (nI 3) then
                bd2 (p_X6_pack (nI 0) v6_7 v6_7 (nI 1) md mdd mn_8) <| fun md_83 mdd_84 =>
                itr3 (p_X6_page_L340 v1 v4 (nI 0) mk mt mv mx (fun md_86 mdd_87 =>
                    bd3 (p_X6_headed v5 (nI 0) (v4 - v3) (nI 0) md_86 mdd_87 mbb) <| fun md_88 mdd_89 mbb_90 =>
                    some (md_88, mdd_89, mn_8, mst, mbb_90))) fu v3 md_83 mdd_84
              else
                itr3 (p_X6_page_L340 v1 v4 (nI 0) mk mt mv mx (fun md_92 mdd_93 =>
                    bd3 (p_X6_headed v5 (nI 0) (v4 - v3) (nI 0) md_92 mdd_93 mbb) <| fun md_94 mdd_95 mbb_96 =>
                    some (md_94, mdd_95, mn_8, mst, mbb_96))) fu v3 md mdd)) fu (nI 0) v3 mn
  else
    if v2 = (nI 1) then
      itr3 (p_X6_page_L132 v1 v4 (nI 8) mt mv mpl (fun v6_98 mn_99 =>
          if (nI 8) = (nI 8) then
            gd (inb (nI 5) 7) <|
            if (mm (ix (nI 5))) < (nI 2) then
              p_X6_page_J241 v1 v3 v4 v5 v6_98 (nI 8) (nI 0) mk mt mv mx md mdd mn_99 mst mbb
            else
              gd (inb (nI 5) 7) <|
              bd1 (p_X6_widthOf (i2l ((mm (ix (nI 5))) - (nI 1)))) <| fun a_102 =>
              p_X6_page_J241 v1 v3 v4 v5 v6_98 (nI 8) a_102 mk mt mv mx md mdd mn_99 mst mbb
          else
            if (nI 8) = (nI 3) then
              bd2 (p_X6_runs v6_98 (nI 1) md mdd mn_99) <| fun md_104 mdd_105 =>
              bd3 (p_X6_sized mdd md_104 mdd_105 mbb) <| fun md_107 mdd_108 mbb_109 =>
              itr3 (p_X6_page_L340 v1 v4 (nI 8) mk mt mv mx (fun md_111 mdd_112 =>
                  bd3 (p_X6_headed v5 (nI 0) (v4 - v3) (nI 8) md_111 mdd_112 mbb_109) <| fun md_113 mdd_114 mbb_115 =>
                  some (md_113, mdd_114, mn_99, mst, mbb_115))) fu v3 md_107 mdd_108
            else
              if (nI 0) < (nI 8) then
                if (nI 8) = (nI 6) then
                  bd4 (p_X6_differences v6_98 (nI 1) md mdd mn_99 mst) <| fun md_117 mdd_118 mn_119 mst_120 =>
                  itr3 (p_X6_page_L340 v1 v4 (nI 8) mk mt mv mx (fun md_122 mdd_123 =>
                      bd3 (p_X6_headed v5 (nI 0) (v4 - v3) (nI 8) md_122 mdd_123 mbb) <| fun md_124 mdd_125 mbb_126 =>
                      some (md_124, mdd_125, mn_119, mst_120, mbb_126))) fu v3 md_117 mdd_118
                else
                  gd (inb v1 7) <|
                  if (mk (ix v1)) = (nI 0) then
                    bd4 (p_X6_differences v6_98 (nI 1) md mdd mn_99 mst) <| fun md_129 mdd_130 mn_131 mst_132 =>
                    itr3 (p_X6_page_L340 v1 v4 (nI 8) mk mt mv mx (fun md_134 mdd_135 =>
                        bd3 (p_X6_headed v5 (nI 0) (v4 - v3) (nI 8) md_134 mdd_135 mbb) <| fun md_136 mdd_137 mbb_138 =>
                        some (md_136, mdd_137, mn_131, mst_132, mbb_138))) fu v3 md_129 mdd_130
                  else
                    bd4 (p_X6_differences v6_98 (nI 0) md mdd mn_99 mst) <| fun md_140 mdd_141 mn_142 mst_143 =>
                    itr3 (p_X6_page_L340 v1 v4 (nI 8) mk mt mv mx (fun md_145 mdd_146 =>
                        bd3 (p_X6_headed v5 (nI 0) (v4 - v3) (nI 8) md_145 mdd_146 mbb) <| fun md_147 mdd_148 mbb_149 =>
                        some (md_147, mdd_148, mn_142, mst_143, mbb_149))) fu v3 md_140 mdd_141
              else
                gd (inb v1 7) <|
                if (mk (ix v1)) = (nI 3) then
                  bd2 (p_X6_pack (nI 0) v6_98 v6_98 (nI 1) md mdd mn_99) <| fun md_152 mdd_153 =>
                  itr3 (p_X6_page_L340 v1 v4 (nI 8) mk mt mv mx (fun md_155 mdd_156 =>
                      bd3 (p_X6_headed v5 (nI 0) (v4 - v3) (nI 8) md_155 mdd_156 mbb) <| fun md_157 mdd_158 mbb_159 =>
                      some (md_157, mdd_158, mn_99, mst, mbb_159))) fu v3 md_152 mdd_153
                else
                  itr3 (p_X6_page_L340 v1 v4 (nI 8) mk mt mv mx (fun md_161 mdd_162 =>
                      bd3 (p_X6_headed v5 (nI 0) (v4 - v3) (nI 8) md_161 mdd_162 mbb) <| fun md_163 mdd_164 mbb_165 =>
                      some (md_163, mdd_164, mn_99, mst, mbb_165))) fu v3 md mdd)) fu (nI 0) v3 mn
    else
      gd (inb v1 7) <|
      if (mk (ix v1)) = (nI 2) then
        itr3 (p_X6_page_L132 v1 v4 (nI 6) mt mv mpl (fun v6_168 mn_169 =>
            if (nI 6) = (nI 8) then
              gd (inb (nI 5) 7) <|
              if (mm (ix (nI 5))) < (nI 2) then
                p_X6_page_J241 v1 v3 v4 v5 v6_168 (nI 6) (nI 0) mk mt mv mx md mdd mn_169 mst mbb
              else
                gd (inb (nI 5) 7) <|
                bd1 (p_X6_widthOf (i2l ((mm (ix (nI 5))) - (nI 1)))) <| fun a_172 =>
                p_X6_page_J241 v1 v3 v4 v5 v6_168 (nI 6) a_172 mk mt mv mx md mdd mn_169 mst mbb
            else
              if (nI 6) = (nI 3) then
                bd2 (p_X6_runs v6_168 (nI 1) md mdd mn_169) <| fun md_174 mdd_175 =>
                bd3 (p_X6_sized mdd md_174 mdd_175 mbb) <| fun md_177 mdd_178 mbb_179 =>
                itr3 (p_X6_page_L340 v1 v4 (nI 6) mk mt mv mx (fun md_181 mdd_182 =>
                    bd3 (p_X6_headed v5 (nI 0) (v4 - v3) (nI 6) md_181 mdd_182 mbb_179) <| fun md_183 mdd_184 mbb_185 =>
                    some (md_183, mdd_184, mn_169, mst, mbb_185))) fu v3 md_177 mdd_178
              else
                if (nI 0) < (nI 6) then
                  if (nI 6) = (nI 6) then
                    bd4 (p_X6_differences v6_168 (nI 1) md mdd mn_169 mst) <| fun md_187 mdd_188 mn_189 mst_190 =>
                    itr3 (p_X6_page_L340 v1 v4 (nI 6) mk mt mv mx (fun md_192 mdd_193 =>
                        bd3 (p_X6_headed v5 (nI 0) (v4 - v3) (nI 6) md_192 mdd_193 mbb) <| fun md_194 mdd_195 mbb_196 =>
                        some (md_194, mdd_195, mn_189, mst_190, mbb_196))) fu v3 md_187 mdd_188
                  else
                    gd (inb v1 7) <|
                    if (mk (ix v1)) = (nI 0) then
                      bd4 (p_X6_differences v6_168 (nI 1) md mdd mn_169 mst) <| fun md_199 mdd_200 mn_201 mst_202 =>
                      itr3 (p_X6_page_L340 v1 v4 (nI 6) mk mt mv mx (fun md_204 mdd_205 =>
                          bd3 (p_X6_headed v5 (nI 0) (v4 - v3) (nI 6) md_204 mdd_205 mbb) <| fun md_206 mdd_207 mbb_208 =>
                          some (md_206, mdd_207, mn_201, mst_202, mbb_208))) fu v3 md_199 mdd_200
                    else
                      bd4 (p_X6_differences v6_168 (nI 0) md mdd mn_169 mst) <| fun md_210 mdd_211 mn_212 mst_213 =>
                      itr3 (p_X6_page_L340 v1 v4 (nI 6) mk mt mv mx (fun md_215 mdd_216 =>
                          bd3 (p_X6_headed v5 (nI 0) (v4 - v3) (nI 6) md_215 mdd_216 mbb) <| fun md_217 mdd_218 mbb_219 =>
                          some (md_217, mdd_218, mn_212, mst_213, mbb_219))) fu v3 md_210 mdd_211
                else
                  gd (inb v1 7) <|
                  if (mk (ix v1)) = (nI 3) then
                    bd2 (p_X6_pack (nI 0) v6_168 v6_168 (nI 1) md mdd mn_169) <| fun md_222 mdd_223 =>
                    itr3 (p_X6_page_L340 v1 v4 (nI 6) mk mt mv mx (fun md_225 mdd_226 =>
                        bd3 (p_X6_headed v5 (nI 0) (v4 - v3) (nI 6) md_225 mdd_226 mbb) <| fun md_227 mdd_228 mbb_229 =>
                        some (md_227, mdd_228, mn_169, mst, mbb_229))) fu v3 md_222 mdd_223
                  else
                    itr3 (p_X6_page_L340 v1 v4 (nI 6) mk mt mv mx (fun md_231 mdd_232 =>
                        bd3 (p_X6_headed v5 (nI 0) (v4 - v3) (nI 6) md_231 mdd_232 mbb) <| fun md_233 mdd_234 mbb_235 =>
                        some (md_233, mdd_234, mn_169, mst, mbb_235))) fu v3 md mdd)) fu (nI 0) v3 mn
      else
        gd (inb v1 7) <|
        if (mk (ix v1)) = (nI 3) then
          itr3 (p_X6_page_L132 v1 v4 (nI 3) mt mv mpl (fun v6_238 mn_239 =>
              if (nI 3) = (nI 8) then
                gd (inb (nI 5) 7) <|
                if (mm (ix (nI 5))) < (nI 2) then
                  p_X6_page_J241 v1 v3 v4 v5 v6_238 (nI 3) (nI 0) mk mt mv mx md mdd mn_239 mst mbb
                else
                  gd (inb (nI 5) 7) <|
                  bd1 (p_X6_widthOf (i2l ((mm (ix (nI 5))) - (nI 1)))) <| fun a_242 =>
                  p_X6_page_J241 v1 v3 v4 v5 v6_238 (nI 3) a_242 mk mt mv mx md mdd mn_239 mst mbb
              else
                if (nI 3) = (nI 3) then
                  bd2 (p_X6_runs v6_238 (nI 1) md mdd mn_239) <| fun md_244 mdd_245 =>
                  bd3 (p_X6_sized mdd md_244 mdd_245 mbb) <| fun md_247 mdd_248 mbb_249 =>
                  itr3 (p_X6_page_L340 v1 v4 (nI 3) mk mt mv mx (fun md_251 mdd_252 =>
                      bd3 (p_X6_headed v5 (nI 0) (v4 - v3) (nI 3) md_251 mdd_252 mbb_249) <| fun md_253 mdd_254 mbb_255 =>
                      some (md_253, mdd_254, mn_239, mst, mbb_255))) fu v3 md_247 mdd_248
                else
                  if (nI 0) < (nI 3) then
                    if (nI 3) = (nI 6) then
                      bd4 (p_X6_differences v6_238 (nI 1) md mdd mn_239 mst) <| fun md_257 mdd_258 mn_259 mst_260 =>
                      itr3 (p_X6_page_L340 v1 v4 (nI 3) mk mt mv mx (fun md_262 mdd_263 =>
                          bd3 (p_X6_headed v5 (nI 0) (v4 - v3) (nI 3) md_262 mdd_263 mbb) <| fun md_264 mdd_265 mbb_266 =>
                          some (md_264, mdd_265, mn_259, mst_260, mbb_266))) fu v3 md_257 mdd_258
                    else
                      gd (inb v1 7) <|
                      if (mk (ix v1)) = (nI 0) then
                        bd4 (p_X6_differences v6_238 (nI 1) md mdd mn_239 mst) <| fun md_269 mdd_270 mn_271 mst_272 =>
                        itr3 (p_X6_page_L340 v1 v4 (nI 3) mk mt mv mx (fun md_274 mdd_275 =>
                            bd3 (p_X6_headed v5 (nI 0) (v4 - v3) (nI 3) md_274 mdd_275 mbb) <| fun md_276 mdd_277 mbb_278 =>
                            some (md_276, mdd_277, mn_271, mst_272, mbb_278))) fu v3 md_269 mdd_270
                      else
                        bd4 (p_X6_differences v6_238 (nI 0) md mdd mn_239 mst) <| fun md_280 mdd_281 mn_282 mst_283 =>
                        itr3 (p_X6_page_L340 v1 v4 (nI 3) mk mt mv mx (fun md_285 mdd_286 =>
                            bd3 (p_X6_headed v5 (nI 0) (v4 - v3) (nI 3) md_285 mdd_286 mbb) <| fun md_287 mdd_288 mbb_289 =>
                            some (md_287, mdd_288, mn_282, mst_283, mbb_289))) fu v3 md_280 mdd_281
                  else
                    gd (inb v1 7) <|
                    if (mk (ix v1)) = (nI 3) then
                      bd2 (p_X6_pack (nI 0) v6_238 v6_238 (nI 1) md mdd mn_239) <| fun md_292 mdd_293 =>
                      itr3 (p_X6_page_L340 v1 v4 (nI 3) mk mt mv mx (fun md_295 mdd_296 =>
                          bd3 (p_X6_headed v5 (nI 0) (v4 - v3) (nI 3) md_295 mdd_296 mbb) <| fun md_297 mdd_298 mbb_299 =>
                          some (md_297, mdd_298, mn_239, mst, mbb_299))) fu v3 md_292 mdd_293
                    else
                      itr3 (p_X6_page_L340 v1 v4 (nI 3) mk mt mv mx (fun md_301 mdd_302 =>
                          bd3 (p_X6_headed v5 (nI 0) (v4 - v3) (nI 3) md_301 mdd_302 mbb) <| fun md_303 mdd_304 mbb_305 =>
                          some (md_303, mdd_304, mn_239, mst, mbb_305))) fu v3 md mdd)) fu (nI 0) v3 mn
        else
          itr3 (p_X6_page_L132 v1 v4 (nI 5) mt mv mpl (fun v6_307 mn_308 =>
              if (nI 5) = (nI 8) then
                gd (inb (nI 5) 7) <|
                if (mm (ix (nI 5))) < (nI 2) then
                  p_X6_page_J241 v1 v3 v4 v5 v6_307 (nI 5) (nI 0) mk mt mv mx md mdd mn_308 mst mbb
                else
                  gd (inb (nI 5) 7) <|
                  bd1 (p_X6_widthOf (i2l ((mm (ix (nI 5))) - (nI 1)))) <| fun a_311 =>
                  p_X6_page_J241 v1 v3 v4 v5 v6_307 (nI 5) a_311 mk mt mv mx md mdd mn_308 mst mbb
              else
                if (nI 5) = (nI 3) then
                  bd2 (p_X6_runs v6_307 (nI 1) md mdd mn_308) <| fun md_313 mdd_314 =>
                  bd3 (p_X6_sized mdd md_313 mdd_314 mbb) <| fun md_316 mdd_317 mbb_318 =>
                  itr3 (p_X6_page_L340 v1 v4 (nI 5) mk mt mv mx (fun md_320 mdd_321 =>
                      bd3 (p_X6_headed v5 (nI 0) (v4 - v3) (nI 5) md_320 mdd_321 mbb_318) <| fun md_322 mdd_323 mbb_324 =>
                      some (md_322, mdd_323, mn_308, mst, mbb_324))) fu v3 md_316 mdd_317
                else
                  if (nI 0) < (nI 5) then
                    if (nI 5) = (nI 6) then
                      bd4 (p_X6_differences v6_307 (nI 1) md mdd mn_308 mst) <| fun md_326 mdd_327 mn_328 mst_329 =>
                      itr3 (p_X6_page_L340 v1 v4 (nI 5) mk mt mv mx (fun md_331 mdd_332 =>
                          bd3 (p_X6_headed v5 (nI 0) (v4 - v3) (nI 5) md_331 mdd_332 mbb) <| fun md_333 mdd_334 mbb_335 =>
                          some (md_333, mdd_334, mn_328, mst_329, mbb_335))) fu v3 md_326 mdd_327
                    else
                      gd (inb v1 7) <|
                      if (mk (ix v1)) = (nI 0) then
                        bd4 (p_X6_differences v6_307 (nI 1) md mdd mn_308 mst) <| fun md_338 mdd_339 mn_340 mst_341 =>
                        itr3 (p_X6_page_L340 v1 v4 (nI 5) mk mt mv mx (fun md_343 mdd_344 =>
                            bd3 (p_X6_headed v5 (nI 0) (v4 - v3) (nI 5) md_343 mdd_344 mbb) <| fun md_345 mdd_346 mbb_347 =>
                            some (md_345, mdd_346, mn_340, mst_341, mbb_347))) fu v3 md_338 mdd_339
                      else
                        bd4 (p_X6_differences v6_307 (nI 0) md mdd mn_308 mst) <| fun md_349 mdd_350 mn_351 mst_352 =>
                        itr3 (p_X6_page_L340 v1 v4 (nI 5) mk mt mv mx (fun md_354 mdd_355 =>
                            bd3 (p_X6_headed v5 (nI 0) (v4 - v3) (nI 5) md_354 mdd_355 mbb) <| fun md_356 mdd_357 mbb_358 =>
                            some (md_356, mdd_357, mn_351, mst_352, mbb_358))) fu v3 md_349 mdd_350
                  else
                    gd (inb v1 7) <|
                    if (mk (ix v1)) = (nI 3) then
                      bd2 (p_X6_pack (nI 0) v6_307 v6_307 (nI 1) md mdd mn_308) <| fun md_361 mdd_362 =>
                      itr3 (p_X6_page_L340 v1 v4 (nI 5) mk mt mv mx (fun md_364 mdd_365 =>
                          bd3 (p_X6_headed v5 (nI 0) (v4 - v3) (nI 5) md_364 mdd_365 mbb) <| fun md_366 mdd_367 mbb_368 =>
                          some (md_366, mdd_367, mn_308, mst, mbb_368))) fu v3 md_361 mdd_362
                    else
                      itr3 (p_X6_page_L340 v1 v4 (nI 5) mk mt mv mx (fun md_370 mdd_371 =>
                          bd3 (p_X6_headed v5 (nI 0) (v4 - v3) (nI 5) md_370 mdd_371 mbb) <| fun md_372 mdd_373 mbb_374 =>
                          some (md_372, mdd_373, mn_308, mst, mbb_374))) fu v3 md mdd)) fu (nI 0) v3 mn
def p_X6_page_L18 (v1 : Int32) (v3 : Int32) (v4 : Int32) (mt : Nat → Int32) (k61 : (Nat → Int64) → Option ((Nat → Int32) × Int32 × (Nat → Int64) × (Nat → Int64) × (Nat → Int32))) (k18 : Int32 → (Nat → Int64) → Option ((Nat → Int32) × Int32 × (Nat → Int64) × (Nat → Int64) × (Nat → Int32))) (v6 : Int32) (mn : Nat → Int64) : Option ((Nat → Int32) × Int32 × (Nat → Int64) × (Nat → Int64) × (Nat → Int32)) :=
  if v6 < v4 then
    gd (inb (((nI 200) * v1) + v6) 1400) <|
    if (mt (ix (((nI 200) * v1) + v6))) = (nI 0) then
      gd (inb (v6 - v3) 500) <|
      k18 (v6 + (nI 1)) (up mn (ix (v6 - v3)) (lN 0))
    else
      gd (inb (v6 - v3) 500) <|
      k18 (v6 + (nI 1)) (up mn (ix (v6 - v3)) (lN 1))
  else
    k61 mn
def p_X6_page (v1 : Int32) (v2 : Int32) (v3 : Int32) (v4 : Int32) (mk : Nat → Int32) (mo : Nat → Int32) (mm : Nat → Int32) (mt : Nat → Int32) (mv : Nat → Int64) (mx : Nat → Int32) (md : Nat → Int32) (mdd : Int32) (mn : Nat → Int64) (mst : Nat → Int64) (mpl : Nat → Int32) (mbb : Nat → Int32) : Option ((Nat → Int32) × Int32 × (Nat → Int64) × (Nat → Int64) × (Nat → Int32)) :=
  gd (inb v1 7) <|
  if (mo (ix v1)) = (nI 0) then
    p_X6_page_J76 v1 v2 v3 v4 mdd mk mm mt mv mx md mdd mn mst mpl mbb
  else
    itr2 (p_X6_page_L18 v1 v3 v4 mt (fun mn_379 =>
        bd2 (p_X6_runs (v4 - v3) (nI 1) md mdd mn_379) <| fun md_380 mdd_381 =>
        bd3 (p_X6_sized mdd md_380 mdd_381 mbb) <| fun md_383 mdd_384 mbb_385 =>
        p_X6_page_J76 v1 v2 v3 v4 mdd mk mm mt mv mx md_383 mdd_384 mn_379 mst mpl mbb_385)) fu v3 mn
def p_X6_write_L75 (v1 : Int32) (mk : Nat → Int32) (mm : Nat → Int32) (mv : Nat → Int64) (mx : Nat → Int32) (k108 : (Nat → Int32) → Int32 → Option (Int32 × (Nat → Int32) × (Nat → Int32) × (Nat → Int64) × (Nat → Int32) × (Nat → Int32) × Int32 × (Nat → Int32) × Int32 × (Nat → Int64) × (Nat → Int64) × (Nat → Int32) × (Nat → Int32))) (k75 : Int32 → (Nat → Int32) → Int32 → Option (Int32 × (Nat → Int32) × (Nat → Int32) × (Nat → Int64) × (Nat → Int32) × (Nat → Int32) × Int32 × (Nat → Int32) × Int32 × (Nat → Int64) × (Nat → Int64) × (Nat → Int32) × (Nat → Int32))) (v5 : Int32) (md : Nat → Int32) (mdd : Int32) : Option (Int32 × (Nat → Int32) × (Nat → Int32) × (Nat → Int64) × (Nat → Int32) × (Nat → Int32) × Int32 × (Nat → Int32) × Int32 × (Nat → Int64) × (Nat → Int64) × (Nat → Int32) × (Nat → Int32)) :=
  gd (inb (nI 5) 7) <|
  if v5 < (mm (ix (nI 5))) then
    gd (inb v1 7) <|
    bd2 (p_X6_plain ((nI 1000) + v5) (mk (ix v1)) mv mx md mdd) <| fun md_17 mdd_18 =>
    k75 (v5 + (nI 1)) md_17 mdd_18
  else
    k108 md mdd
def p_X6_write_L124 (v1 : Int32) (v2 : Int32) (v3 : Int32) (mk : Nat → Int32) (mo : Nat → Int32) (mm : Nat → Int32) (mt : Nat → Int32) (mv : Nat → Int64) (mx : Nat → Int32) (mpl : Nat → Int32) (k178 : (Nat → Int32) → Int32 → (Nat → Int64) → (Nat → Int64) → (Nat → Int32) → Option (Int32 × (Nat → Int32) × (Nat → Int32) × (Nat → Int64) × (Nat → Int32) × (Nat → Int32) × Int32 × (Nat → Int32) × Int32 × (Nat → Int64) × (Nat → Int64) × (Nat → Int32) × (Nat → Int32))) (k124 : Int32 → (Nat → Int32) → Int32 → (Nat → Int64) → (Nat → Int64) → (Nat → Int32) → Option (Int32 × (Nat → Int32) × (Nat → Int32) × (Nat → Int64) × (Nat → Int32) × (Nat → Int32) × Int32 × (Nat → Int32) × Int32 × (Nat → Int64) × (Nat → Int64) × (Nat → Int32) × (Nat → Int32))) (v5 : Int32) (md : Nat → Int32) (mdd : Int32) (mn : Nat → Int64) (mst : Nat → Int64) (mbb : Nat → Int32) : Option (Int32 × (Nat → Int32) × (Nat → Int32) × (Nat → Int64) × (Nat → Int32) × (Nat → Int32) × Int32 × (Nat → Int32) × Int32 × (Nat → Int64) × (Nat → Int64) × (Nat → Int32) × (Nat → Int32)) :=
  gd (inb v1 7) <|
  if v5 < (mm (ix v1)) then
    gd (inb v1 7) <|
    if (v5 + v3) < (mm (ix v1)) then
      bd5 (p_X6_page v1 v2 v5 (v5 + v3) mk mo mm mt mv mx md mdd mn mst mpl mbb) <| fun md_29 mdd_30 mn_31 mst_32 mbb_33 =>
      k124 (v5 + v3) md_29 mdd_30 mn_31 mst_32 mbb_33
    else
      gd (inb v1 7) <|
      bd5 (p_X6_page v1 v2 v5 (mm (ix v1)) mk mo mm mt mv mx md mdd mn mst mpl mbb) <| fun md_36 mdd_37 mn_38 mst_39 mbb_40 =>
      k124 (v5 + v3) md_36 mdd_37 mn_38 mst_39 mbb_40
  else
    k178 md mdd mn mst mbb
def p_X6_write_L212 (v5 : Int32) (md : Nat → Int32) (mdd : Int32) (k244 : (Nat → Int32) → Option (Int32 × (Nat → Int32) × (Nat → Int32) × (Nat → Int64) × (Nat → Int32) × (Nat → Int32) × Int32 × (Nat → Int32) × Int32 × (Nat → Int64) × (Nat → Int64) × (Nat → Int32) × (Nat → Int32))) (k212 : Int32 → (Nat → Int32) → Option (Int32 × (Nat → Int32) × (Nat → Int32) × (Nat → Int64) × (Nat → Int32) × (Nat → Int32) × Int32 × (Nat → Int32) × Int32 × (Nat → Int64) × (Nat → Int64) × (Nat → Int32) × (Nat → Int32))) (v6 : Int32) (mf : Nat → Int32) : Option (Int32 × (Nat → Int32) × (Nat → Int32) × (Nat → Int64) × (Nat → Int32) × (Nat → Int32) × Int32 × (Nat → Int32) × Int32 × (Nat → Int64) × (Nat → Int64) × (Nat → Int32) × (Nat → Int32)) :=
  if v6 < mdd then
    gd (inb v6 60000) <|
    gd (inb (v5 + v6) 12000) <|
    k212 (v6 + (nI 1)) (up mf (ix (v5 + v6)) (b8 (md (ix v6))))
  else
    k244 mf
def p_X6_write_J191 (s0 : Int32) (mm : Nat → Int32) (mt : Nat → Int32) (mv : Nat → Int64) (mx : Nat → Int32) (mf : Nat → Int32) (ms : Int32) (md : Nat → Int32) (mdd : Int32) (mn : Nat → Int64) (mst : Nat → Int64) (mpl : Nat → Int32) (mbb : Nat → Int32) : Option (Int32 × (Nat → Int32) × (Nat → Int32) × (Nat → Int64) × (Nat → Int32) × (Nat → Int32) × Int32 × (Nat → Int32) × Int32 × (Nat → Int64) × (Nat → Int64) × (Nat → Int32) × (Nat → Int32)) :=
  if (nI 12000) < (s0 + mdd) then
    some ((-3 : Int32), mm, mt, mv, mx, mf, ms, md, mdd, mn, mst, mpl, mbb)
  else
    itr2 (p_X6_write_L212 s0 md mdd (fun mf_49 =>
        some ((s0 + mdd), mm, mt, mv, mx, mf_49, (s0 + mdd), md, mdd, mn, mst, mpl, mbb))) fu (nI 0) mf
def p_X6_write_J34 (v1 : Int32) (v2 : Int32) (v3 : Int32) (v4 : Int32) (mk : Nat → Int32) (mo : Nat → Int32) (mm : Nat → Int32) (mt : Nat → Int32) (mv : Nat → Int64) (mx : Nat → Int32) (mf : Nat → Int32) (ms : Int32) (md : Nat → Int32) (mdd : Int32) (mn : Nat → Int64) (mst : Nat → Int64) (mpl : Nat → Int32) (mbb : Nat → Int32) : Option (Int32 × (Nat → Int32) × (Nat → Int32) × (Nat → Int64) × (Nat → Int32) × (Nat → Int32) × Int32 × (Nat → Int32) × Int32 × (Nat → Int64) × (Nat → Int64) × (Nat → Int32) × (Nat → Int32)) :=
  bd1 (p_X6_in (i2l v3) (lN 1) (lN 200)) <| fun a_6 =>
  if a_6 = (nI 0) then
    some ((-1 : Int32), mm, mt, mv, mx, mf, ms, md, mdd, mn, mst, mpl, mbb)
  else
    if v2 = (nI 1) then
      gd (inb v1 7) <|
      if (nI 0) < (mm (ix v1)) then
        bd5 (p_X6_makeDictionary v1 mm mt mv mx mpl) <| fun mm_9 mt_10 mv_11 mx_12 mpl_13 =>
        itr3 (p_X6_write_L75 v1 mk mm_9 mv_11 mx_12 (fun md_20 mdd_21 =>
            gd (inb (nI 5) 7) <|
            bd3 (p_X6_headed (nI 0) (nI 2) (mm_9 (ix (nI 5))) (nI 0) md_20 mdd_21 mbb) <| fun md_23 mdd_24 mbb_25 =>
            itr6 (p_X6_write_L124 v1 v2 v3 mk mo mm_9 mt_10 mv_11 mx_12 mpl_13 (fun md_42 mdd_43 mn_44 mst_45 mbb_46 =>
                if v4 = (nI 0) then
                  p_X6_write_J191 (nI 0) mm_9 mt_10 mv_11 mx_12 mf ms md_42 mdd_43 mn_44 mst_45 mpl_13 mbb_46
                else
                  p_X6_write_J191 ms mm_9 mt_10 mv_11 mx_12 mf ms md_42 mdd_43 mn_44 mst_45 mpl_13 mbb_46)) fu (nI 0) md_23 mdd_24 mn mst mbb_25)) fu (nI 0) md (nI 0)
      else
        itr6 (p_X6_write_L124 v1 v2 v3 mk mo mm mt mv mx mpl (fun md_50 mdd_51 mn_52 mst_53 mbb_54 =>
            if v4 = (nI 0) then
              p_X6_write_J191 (nI 0) mm mt mv mx mf ms md_50 mdd_51 mn_52 mst_53 mpl mbb_54
            else
              p_X6_write_J191 ms mm mt mv mx mf ms md_50 mdd_51 mn_52 mst_53 mpl mbb_54)) fu (nI 0) md (nI 0) mn mst mbb
    else
      itr6 (p_X6_write_L124 v1 v2 v3 mk mo mm mt mv mx mpl (fun md_55 mdd_56 mn_57 mst_58 mbb_59 =>
          if v4 = (nI 0) then
            p_X6_write_J191 (nI 0) mm mt mv mx mf ms md_55 mdd_56 mn_57 mst_58 mpl mbb_59
          else
            p_X6_write_J191 ms mm mt mv mx mf ms md_55 mdd_56 mn_57 mst_58 mpl mbb_59)) fu (nI 0) md (nI 0) mn mst mbb
def p_X6_write (v1 : Int32) (v2 : Int32) (v3 : Int32) (v4 : Int32) (mk : Nat → Int32) (mo : Nat → Int32) (mm : Nat → Int32) (mt : Nat → Int32) (mv : Nat → Int64) (mx : Nat → Int32) (mf : Nat → Int32) (ms : Int32) (md : Nat → Int32) (mdd : Int32) (mn : Nat → Int64) (mst : Nat → Int64) (mpl : Nat → Int32) (mbb : Nat → Int32) : Option (Int32 × (Nat → Int32) × (Nat → Int32) × (Nat → Int64) × (Nat → Int32) × (Nat → Int32) × Int32 × (Nat → Int32) × Int32 × (Nat → Int64) × (Nat → Int64) × (Nat → Int32) × (Nat → Int32)) :=
  bd1 (p_X6_isColumn v1) <| fun a_1 =>
  if a_1 = (nI 0) then
    some ((-1 : Int32), mm, mt, mv, mx, mf, ms, md, mdd, mn, mst, mpl, mbb)
  else
    bd1 (p_X6_in (i2l v2) (lN 0) (lN 2)) <| fun a_3 =>
    if a_3 = (nI 0) then
      some ((-1 : Int32), mm, mt, mv, mx, mf, ms, md, mdd, mn, mst, mpl, mbb)
    else
      if v2 = (nI 1) then
        gd (inb v1 7) <|
        if (mk (ix v1)) = (nI 3) then
          some ((-1 : Int32), mm, mt, mv, mx, mf, ms, md, mdd, mn, mst, mpl, mbb)
        else
          p_X6_write_J34 v1 v2 v3 v4 mk mo mm mt mv mx mf ms md mdd mn mst mpl mbb
      else
        p_X6_write_J34 v1 v2 v3 v4 mk mo mm mt mv mx mf ms md mdd mn mst mpl mbb
def p_X6_fails (v1 : Int32) (v2 : Int32) (mb : Int32) (mba : Int32) : Option (Int32 × Int32 × Int32) :=
  some ((nI 0), v1, v2)
def p_X6_next (mf : Nat → Int32) (ma : Int32) (me : Int32) (mb : Int32) (mba : Int32) : Option (Int32 × Int32 × Int32 × Int32) :=
  if ma < me then
    gd (inb ((ma + (nI 1)) - (nI 1)) 12000) <|
    some (((mf (ix ((ma + (nI 1)) - (nI 1)))) &&& (nI 255)), (ma + (nI 1)), mb, mba)
  else
    bd3 (p_X6_fails (nI 1) me mb mba) <| fun a_2 mb_3 mba_4 =>
    some ((nI 0), ma, mb_3, mba_4)
def p_X6_readVar_J54 (v1 : Int64) (v3 : Int32) (v5 : Int32) (ma : Int32) (mb : Int32) (mba : Int32) (k4 : Int64 → Int32 → Int32 → Int32 → Int32 → Option (Int64 × Int32 × Int32 × Int32)) : Option (Int64 × Int32 × Int32 × Int32) :=
  if v5 < (nI 128) then
    some ((v1 ||| (lshl (i2l (v5 &&& (nI 127))) ((nI 7) * v3))), ma, mb, mba)
  else
    k4 (v1 ||| (lshl (i2l (v5 &&& (nI 127))) ((nI 7) * v3))) (v3 + (nI 1)) ma mb mba
def p_X6_readVar_L4 (mf : Nat → Int32) (me : Int32) (k4 : Int64 → Int32 → Int32 → Int32 → Int32 → Option (Int64 × Int32 × Int32 × Int32)) (v1 : Int64) (v3 : Int32) (ma : Int32) (mb : Int32) (mba : Int32) : Option (Int64 × Int32 × Int32 × Int32) :=
  if v3 < (nI 10) then
    bd4 (p_X6_next mf ma me mb mba) <| fun a_1 ma_2 mb_3 mba_4 =>
    if mb_3 = (nI 0) then
      if v3 = (nI 9) then
        if (nI 1) < a_1 then
          bd3 (p_X6_fails (nI 2) ma mb_3 mba_4) <| fun a_6 mb_7 mba_8 =>
          some ((lN 0), ma_2, mb_7, mba_8)
        else
          p_X6_readVar_J54 v1 v3 a_1 ma_2 mb_3 mba_4 k4
      else
        p_X6_readVar_J54 v1 v3 a_1 ma_2 mb_3 mba_4 k4
    else
      some ((lN 0), ma_2, mb_3, mba_4)
  else
    some (v1, ma, mb, mba)
def p_X6_readVar (mf : Nat → Int32) (ma : Int32) (me : Int32) (mb : Int32) (mba : Int32) : Option (Int64 × Int32 × Int32 × Int32) :=
  itr5 (p_X6_readVar_L4 mf me ) fu (lN 0) (nI 0) ma mb mba
def p_X6_readZig (mf : Nat → Int32) (ma : Int32) (me : Int32) (mb : Int32) (mba : Int32) : Option (Int64 × Int32 × Int32 × Int32) :=
  bd4 (p_X6_readVar mf ma me mb mba) <| fun a_1 ma_2 mb_3 mba_4 =>
  some (((lushr a_1 (nI 1)) ^^^ ((lN 0) - (a_1 &&& (lN 1)))), ma_2, mb_3, mba_4)
def p_X6_readBytes_L5 (v1 : Int32) (mf : Nat → Int32) (me : Int32) (k5 : Int64 → Int32 → Int32 → Int32 → Int32 → Option (Int64 × Int32 × Int32 × Int32)) (v2 : Int64) (v4 : Int32) (ma : Int32) (mb : Int32) (mba : Int32) : Option (Int64 × Int32 × Int32 × Int32) :=
  if v4 < v1 then
    if mb = (nI 0) then
      bd4 (p_X6_next mf ma me mb mba) <| fun a_1 ma_2 mb_3 mba_4 =>
      k5 (v2 ||| (lshl (i2l a_1) ((nI 8) * v4))) (v4 + (nI 1)) ma_2 mb_3 mba_4
    else
      some (v2, ma, mb, mba)
  else
    some (v2, ma, mb, mba)
def p_X6_readBytes (v1 : Int32) (mf : Nat → Int32) (ma : Int32) (me : Int32) (mb : Int32) (mba : Int32) : Option (Int64 × Int32 × Int32 × Int32) :=
  itr5 (p_X6_readBytes_L5 v1 mf me ) fu (lN 0) (nI 0) ma mb mba
def p_X6_readPacked_J39 (v2 : Int64) (v4 : Int32) (ma : Int32) (mb : Int32) (mba : Int32) (mbl : Int32) (mby : Int32) (k5 : Int64 → Int32 → Int32 → Int32 → Int32 → Int32 → Int32 → Option (Int64 × Int32 × Int32 × Int32 × Int32 × Int32)) : Option (Int64 × Int32 × Int32 × Int32 × Int32 × Int32) :=
  k5 (v2 ||| (lshl (i2l ((ishr mby ((nI 8) - mbl)) &&& (nI 1))) v4)) (v4 + (nI 1)) ma mb mba (mbl - (nI 1)) mby
def p_X6_readPacked_L5 (v1 : Int32) (mf : Nat → Int32) (me : Int32) (k5 : Int64 → Int32 → Int32 → Int32 → Int32 → Int32 → Int32 → Option (Int64 × Int32 × Int32 × Int32 × Int32 × Int32)) (v2 : Int64) (v4 : Int32) (ma : Int32) (mb : Int32) (mba : Int32) (mbl : Int32) (mby : Int32) : Option (Int64 × Int32 × Int32 × Int32 × Int32 × Int32) :=
  if v4 < v1 then
    if mb = (nI 0) then
      if mbl = (nI 0) then
        bd4 (p_X6_next mf ma me mb mba) <| fun a_1 ma_2 mb_3 mba_4 =>
        p_X6_readPacked_J39 v2 v4 ma_2 mb_3 mba_4 (nI 8) a_1 k5
      else
        p_X6_readPacked_J39 v2 v4 ma mb mba mbl mby k5
    else
      some (v2, ma, mb, mba, mbl, mby)
  else
    some (v2, ma, mb, mba, mbl, mby)
def p_X6_readPacked (v1 : Int32) (mf : Nat → Int32) (ma : Int32) (me : Int32) (mb : Int32) (mba : Int32) (mbl : Int32) (mby : Int32) : Option (Int64 × Int32 × Int32 × Int32 × Int32 × Int32) :=
  itr7 (p_X6_readPacked_L5 v1 mf me ) fu (lN 0) (nI 0) ma mb mba mbl mby
def p_X6_readRuns_L208 (v7 : Int64) (v11 : Int64) (k233 : Int32 → (Nat → Int64) → Option (Int32 × (Nat → Int64) × Int32 × Int32 × Int32 × Int32 × Int32)) (k208 : Int32 → Int32 → (Nat → Int64) → Option (Int32 × (Nat → Int64) × Int32 × Int32 × Int32 × Int32 × Int32)) (v3 : Int32) (v13 : Int32) (mn : Nat → Int64) : Option (Int32 × (Nat → Int64) × Int32 × Int32 × Int32 × Int32 × Int32) :=
  if v13 < (l2i v7) then
    gd (inb v3 500) <|
    k208 (v3 + (nI 1)) (v13 + (nI 1)) (up mn (ix v3) v11)
  else
    k233 v3 mn
def p_X6_readRuns_L108 (v1 : Int32) (v2 : Int32) (v7 : Int64) (mf : Nat → Int32) (me : Int32) (k157 : Int32 → (Nat → Int64) → Int32 → Int32 → Int32 → Int32 → Int32 → Option (Int32 × (Nat → Int64) × Int32 × Int32 × Int32 × Int32 × Int32)) (k108 : Int32 → Int32 → (Nat → Int64) → Int32 → Int32 → Int32 → Int32 → Int32 → Option (Int32 × (Nat → Int64) × Int32 × Int32 × Int32 × Int32 × Int32)) (v3 : Int32) (v11 : Int32) (mn : Nat → Int64) (ma : Int32) (mb : Int32) (mba : Int32) (mbl : Int32) (mby : Int32) : Option (Int32 × (Nat → Int64) × Int32 × Int32 × Int32 × Int32 × Int32) :=
  if v11 < ((nI 8) * (l2i v7)) then
    bd6 (p_X6_readPacked v2 mf ma me mb mba mbl mby) <| fun a_29 ma_30 mb_31 mba_32 mbl_33 mby_34 =>
    if mb_31 = (nI 0) then
      if v3 < v1 then
        gd (inb v3 500) <|
        k108 (v3 + (nI 1)) (v11 + (nI 1)) (up mn (ix v3) a_29) ma_30 mb_31 mba_32 mbl_33 mby_34
      else
        k108 v3 (v11 + (nI 1)) mn ma_30 mb_31 mba_32 mbl_33 mby_34
    else
      some ((nI 0), mn, ma_30, mb_31, mba_32, mbl_33, mby_34)
  else
    k157 v3 mn ma mb mba mbl mby
def p_X6_readRuns_J82 (v1 : Int32) (v2 : Int32) (v3 : Int32) (v4 : Int32) (v7 : Int64) (v9 : Int32) (s0 : Int64) (s1 : Int32) (mf : Nat → Int32) (mn : Nat → Int64) (ma : Int32) (me : Int32) (mb : Int32) (mba : Int32) (mbl : Int32) (mby : Int32) (k2 : Int32 → (Nat → Int64) → Int32 → Int32 → Int32 → Int32 → Int32 → Option (Int32 × (Nat → Int64) × Int32 × Int32 × Int32 × Int32 × Int32)) : Option (Int32 × (Nat → Int64) × Int32 × Int32 × Int32 × Int32 × Int32) :=
  if (i2l s1) < s0 then
    bd3 (p_X6_fails (nI 3) v4 mb mba) <| fun a_11 mb_12 mba_13 =>
    gd (isB a_11) <|
    some (a_11, mn, ma, mb_12, mba_13, mbl, mby)
  else
    if v9 = (nI 0) then
      bd4 (p_X6_readBytes ((v2 + (nI 7)) / (nI 8)) mf ma me mb mba) <| fun a_16 ma_17 mb_18 mba_19 =>
      if mb_18 = (nI 0) then
        if (lushr a_16 v2) = (lN 0) then
          itr3 (p_X6_readRuns_L208 v7 a_16 (fun v3_22 mn_23 =>
              k2 v3_22 mn_23 ma_17 mb_18 mba_19 mbl mby)) fu v3 (nI 0) mn
        else
          bd3 (p_X6_fails (nI 4) ma mb_18 mba_19) <| fun a_24 mb_25 mba_26 =>
          gd (isB a_24) <|
          some (a_24, mn, ma_17, mb_25, mba_26, mbl, mby)
      else
        some ((nI 0), mn, ma_17, mb_18, mba_19, mbl, mby)
    else
      itr8 (p_X6_readRuns_L108 v1 v2 v7 mf me (fun v3_37 mn_38 ma_39 mb_40 mba_41 mbl_42 mby_43 =>
          k2 v3_37 mn_38 ma_39 mb_40 mba_41 mbl_42 mby_43)) fu v3 (nI 0) mn ma mb mba (nI 0) mby
def p_X6_readRuns_J48 (v1 : Int32) (v2 : Int32) (v3 : Int32) (v4 : Int32) (v7 : Int64) (s0 : Int32) (mf : Nat → Int32) (mn : Nat → Int64) (ma : Int32) (me : Int32) (mb : Int32) (mba : Int32) (mbl : Int32) (mby : Int32) (k2 : Int32 → (Nat → Int64) → Int32 → Int32 → Int32 → Int32 → Int32 → Option (Int32 × (Nat → Int64) × Int32 × Int32 × Int32 × Int32 × Int32)) : Option (Int32 × (Nat → Int64) × Int32 × Int32 × Int32 × Int32 × Int32) :=
  if v7 = (lN 0) then
    bd3 (p_X6_fails (nI 3) v4 mb mba) <| fun a_6 mb_7 mba_8 =>
    gd (isB a_6) <|
    some (a_6, mn, ma, mb_7, mba_8, mbl, mby)
  else
    if s0 = (nI 0) then
      p_X6_readRuns_J82 v1 v2 v3 v4 v7 s0 v7 (v1 - v3) mf mn ma me mb mba mbl mby k2
    else
      p_X6_readRuns_J82 v1 v2 v3 v4 v7 s0 v7 (((v1 - v3) + (nI 7)) / (nI 8)) mf mn ma me mb mba mbl mby k2
def p_X6_readRuns_L2 (v1 : Int32) (v2 : Int32) (mf : Nat → Int32) (me : Int32) (k2 : Int32 → (Nat → Int64) → Int32 → Int32 → Int32 → Int32 → Int32 → Option (Int32 × (Nat → Int64) × Int32 × Int32 × Int32 × Int32 × Int32)) (v3 : Int32) (mn : Nat → Int64) (ma : Int32) (mb : Int32) (mba : Int32) (mbl : Int32) (mby : Int32) : Option (Int32 × (Nat → Int64) × Int32 × Int32 × Int32 × Int32 × Int32) :=
  if v3 < v1 then
    bd4 (p_X6_readVar mf ma me mb mba) <| fun a_1 ma_2 mb_3 mba_4 =>
    if mb_3 = (nI 0) then
      if (a_1 &&& (lN 1)) = (lN 1) then
        p_X6_readRuns_J48 v1 v2 v3 ma (lushr a_1 (nI 1)) (nI 1) mf mn ma_2 me mb_3 mba_4 mbl mby k2
      else
        p_X6_readRuns_J48 v1 v2 v3 ma (lushr a_1 (nI 1)) (nI 0) mf mn ma_2 me mb_3 mba_4 mbl mby k2
    else
      some ((nI 0), mn, ma_2, mb_3, mba_4, mbl, mby)
  else
    some ((nI 1), mn, ma, mb, mba, mbl, mby)
def p_X6_readRuns (v1 : Int32) (v2 : Int32) (mf : Nat → Int32) (mn : Nat → Int64) (ma : Int32) (me : Int32) (mb : Int32) (mba : Int32) (mbl : Int32) (mby : Int32) : Option (Int32 × (Nat → Int64) × Int32 × Int32 × Int32 × Int32 × Int32) :=
  itr7 (p_X6_readRuns_L2 v1 v2 mf me ) fu (nI 0) mn ma mb mba mbl mby
def p_X6_wants (v1 : Int64) (v3 : Int32) (mf : Nat → Int32) (ma : Int32) (me : Int32) (mb : Int32) (mba : Int32) : Option (Int32 × Int32 × Int32 × Int32) :=
  bd4 (p_X6_readVar mf ma me mb mba) <| fun a_1 ma_2 mb_3 mba_4 =>
  if mb_3 = (nI 0) then
    if a_1 = v1 then
      some ((nI 1), ma_2, mb_3, mba_4)
    else
      bd3 (p_X6_fails (nI 5) v3 mb_3 mba_4) <| fun a_6 mb_7 mba_8 =>
      if a_6 = (nI 0) then
        some ((nI 0), ma_2, mb_7, mba_8)
      else
        some ((nI 1), ma_2, mb_7, mba_8)
  else
    some ((nI 0), ma_2, mb_3, mba_4)
def p_X6_readDifferences_J201 (v10 : Int32) (v11 : Int32) (s0 : Int32) (s1 : Int32) (mn : Nat → Int64) (ma : Int32) (mb : Int32) (mba : Int32) (mbl : Int32) (mby : Int32) (mw : Nat → Int32) (k117 : Int32 → Int32 → Int32 → Int32 → (Nat → Int32) → Option (Int32 × (Nat → Int64) × Int32 × Int32 × Int32 × Int32 × Int32 × (Nat → Int32))) : Option (Int32 × (Nat → Int64) × Int32 × Int32 × Int32 × Int32 × Int32 × (Nat → Int32)) :=
  if s1 < s0 then
    bd3 (p_X6_fails (nI 6) v11 mb mba) <| fun a_34 mb_35 mba_36 =>
    gd (isB a_34) <|
    some (a_34, mn, ma, mb_35, mba_36, mbl, mby, mw)
  else
    k117 (v10 + (nI 1)) ma mb mba mw
def p_X6_readDifferences_J165 (v2 : Int32) (v10 : Int32) (v11 : Int32) (s0 : Int32) (mn : Nat → Int64) (ma : Int32) (mb : Int32) (mba : Int32) (mbl : Int32) (mby : Int32) (mw : Nat → Int32) (k117 : Int32 → Int32 → Int32 → Int32 → (Nat → Int32) → Option (Int32 × (Nat → Int64) × Int32 × Int32 × Int32 × Int32 × Int32 × (Nat → Int32))) : Option (Int32 × (Nat → Int64) × Int32 × Int32 × Int32 × Int32 × Int32 × (Nat → Int32)) :=
  if mb = (nI 0) then
    gd (inb v10 4) <|
    if s0 = (nI 0) then
      p_X6_readDifferences_J201 v10 v11 (mw (ix v10)) (nI 0) mn ma mb mba mbl mby mw k117
    else
      if v2 = (nI 0) then
        p_X6_readDifferences_J201 v10 v11 (mw (ix v10)) (nI 64) mn ma mb mba mbl mby mw k117
      else
        p_X6_readDifferences_J201 v10 v11 (mw (ix v10)) (nI 32) mn ma mb mba mbl mby mw k117
  else
    k117 (v10 + (nI 1)) ma mb mba mw
def p_X6_readDifferences_L117 (v2 : Int32) (v6 : Int32) (v7 : Int32) (mf : Nat → Int32) (mn : Nat → Int64) (me : Int32) (mbl : Int32) (mby : Int32) (k219 : Int32 → Int32 → Int32 → (Nat → Int32) → Option (Int32 × (Nat → Int64) × Int32 × Int32 × Int32 × Int32 × Int32 × (Nat → Int32))) (k117 : Int32 → Int32 → Int32 → Int32 → (Nat → Int32) → Option (Int32 × (Nat → Int64) × Int32 × Int32 × Int32 × Int32 × Int32 × (Nat → Int32))) (v10 : Int32) (ma : Int32) (mb : Int32) (mba : Int32) (mw : Nat → Int32) : Option (Int32 × (Nat → Int64) × Int32 × Int32 × Int32 × Int32 × Int32 × (Nat → Int32)) :=
  if v10 < (nI 4) then
    if mb = (nI 0) then
      bd4 (p_X6_next mf ma me mb mba) <| fun a_27 ma_28 mb_29 mba_30 =>
      gd (inb v10 4) <|
      if (v6 + ((nI 32) * v10)) < v7 then
        p_X6_readDifferences_J165 v2 v10 ma (nI 1) mn ma_28 mb_29 mba_30 mbl mby (up mw (ix v10) a_27) k117
      else
        p_X6_readDifferences_J165 v2 v10 ma (nI 0) mn ma_28 mb_29 mba_30 mbl mby (up mw (ix v10) a_27) k117
    else
      k219 ma mb mba mw
  else
    k219 ma mb mba mw
def p_X6_readDifferences_L250 (v2 : Int32) (v6 : Int32) (v7 : Int32) (v8 : Int64) (v10 : Int32) (mf : Nat → Int32) (me : Int32) (mw : Nat → Int32) (k346 : Int64 → (Nat → Int64) → Int32 → Int32 → Int32 → Int32 → Int32 → Option (Int32 × (Nat → Int64) × Int32 × Int32 × Int32 × Int32 × Int32 × (Nat → Int32))) (k250 : Int64 → Int32 → (Nat → Int64) → Int32 → Int32 → Int32 → Int32 → Int32 → Option (Int32 × (Nat → Int64) × Int32 × Int32 × Int32 × Int32 × Int32 × (Nat → Int32))) (v4 : Int64) (v11 : Int32) (mn : Nat → Int64) (ma : Int32) (mb : Int32) (mba : Int32) (mbl : Int32) (mby : Int32) : Option (Int32 × (Nat → Int64) × Int32 × Int32 × Int32 × Int32 × Int32 × (Nat → Int32)) :=
  if v11 < ((v6 + ((nI 32) * v10)) + (nI 32)) then
    if (v6 + ((nI 32) * v10)) < v7 then
      if mb = (nI 0) then
        gd (inb v10 4) <|
        bd6 (p_X6_readPacked (mw (ix v10)) mf ma me mb mba mbl mby) <| fun a_44 ma_45 mb_46 mba_47 mbl_48 mby_49 =>
        if v11 < v7 then
          if v2 = (nI 0) then
            gd (inb v11 500) <|
            k250 ((v4 + v8) + a_44) (v11 + (nI 1)) (up mn (ix v11) ((v4 + v8) + a_44)) ma_45 mb_46 mba_47 mbl_48 mby_49
          else
            gd (inb v11 500) <|
            k250 (i2l (l2i ((v4 + v8) + a_44))) (v11 + (nI 1)) (up mn (ix v11) (i2l (l2i ((v4 + v8) + a_44)))) ma_45 mb_46 mba_47 mbl_48 mby_49
        else
          k250 v4 (v11 + (nI 1)) mn ma_45 mb_46 mba_47 mbl_48 mby_49
      else
        k346 v4 mn ma mb mba mbl mby
    else
      k346 v4 mn ma mb mba mbl mby
  else
    k346 v4 mn ma mb mba mbl mby
def p_X6_readDifferences_L222 (v2 : Int32) (v6 : Int32) (v7 : Int32) (v8 : Int64) (mf : Nat → Int32) (me : Int32) (mw : Nat → Int32) (k352 : Int64 → (Nat → Int64) → Int32 → Int32 → Int32 → Int32 → Int32 → Option (Int32 × (Nat → Int64) × Int32 × Int32 × Int32 × Int32 × Int32 × (Nat → Int32))) (k222 : Int64 → Int32 → (Nat → Int64) → Int32 → Int32 → Int32 → Int32 → Int32 → Option (Int32 × (Nat → Int64) × Int32 × Int32 × Int32 × Int32 × Int32 × (Nat → Int32))) (v4 : Int64) (v10 : Int32) (mn : Nat → Int64) (ma : Int32) (mb : Int32) (mba : Int32) (mbl : Int32) (mby : Int32) : Option (Int32 × (Nat → Int64) × Int32 × Int32 × Int32 × Int32 × Int32 × (Nat → Int32)) :=
  if v10 < (nI 4) then
    if mb = (nI 0) then
      itr8 (p_X6_readDifferences_L250 v2 v6 v7 v8 v10 mf me mw (fun v4_53 mn_54 ma_55 mb_56 mba_57 mbl_58 mby_59 =>
          k222 v4_53 (v10 + (nI 1)) mn_54 ma_55 mb_56 mba_57 mbl_58 mby_59)) fu v4 (v6 + ((nI 32) * v10)) mn ma mb mba (nI 0) mby
    else
      k352 v4 mn ma mb mba mbl mby
  else
    k352 v4 mn ma mb mba mbl mby
def p_X6_readDifferences_J352 (v4 : Int64) (v6 : Int32) (mn : Nat → Int64) (ma : Int32) (mb : Int32) (mba : Int32) (mbl : Int32) (mby : Int32) (mw : Nat → Int32) (k80 : Int64 → Int32 → (Nat → Int64) → Int32 → Int32 → Int32 → Int32 → Int32 → (Nat → Int32) → Option (Int32 × (Nat → Int64) × Int32 × Int32 × Int32 × Int32 × Int32 × (Nat → Int32))) : Option (Int32 × (Nat → Int64) × Int32 × Int32 × Int32 × Int32 × Int32 × (Nat → Int32)) :=
  if mb = (nI 0) then
    k80 v4 (v6 + (nI 128)) mn ma mb mba mbl mby mw
  else
    some ((nI 0), mn, ma, mb, mba, mbl, mby, mw)
def p_X6_readDifferences_L80 (v1 : Int32) (v2 : Int32) (mf : Nat → Int32) (me : Int32) (k80 : Int64 → Int32 → (Nat → Int64) → Int32 → Int32 → Int32 → Int32 → Int32 → (Nat → Int32) → Option (Int32 × (Nat → Int64) × Int32 × Int32 × Int32 × Int32 × Int32 × (Nat → Int32))) (v4 : Int64) (v6 : Int32) (mn : Nat → Int64) (ma : Int32) (mb : Int32) (mba : Int32) (mbl : Int32) (mby : Int32) (mw : Nat → Int32) : Option (Int32 × (Nat → Int64) × Int32 × Int32 × Int32 × Int32 × Int32 × (Nat → Int32)) :=
  if v6 < v1 then
    if (v6 + (nI 128)) < v1 then
      bd4 (p_X6_readZig mf ma me mb mba) <| fun a_22 ma_23 mb_24 mba_25 =>
      itr5 (p_X6_readDifferences_L117 v2 v6 (v6 + (nI 128)) mf mn me mbl mby (fun ma_39 mb_40 mba_41 mw_42 =>
          itr8 (p_X6_readDifferences_L222 v2 v6 (v6 + (nI 128)) a_22 mf me mw_42 (fun v4_60 mn_61 ma_62 mb_63 mba_64 mbl_65 mby_66 =>
              p_X6_readDifferences_J352 v4_60 v6 mn_61 ma_62 mb_63 mba_64 mbl_65 mby_66 mw_42 k80)) fu v4 (nI 0) mn ma_39 mb_40 mba_41 mbl mby)) fu (nI 0) ma_23 mb_24 mba_25 mw
    else
      bd4 (p_X6_readZig mf ma me mb mba) <| fun a_67 ma_68 mb_69 mba_70 =>
      itr5 (p_X6_readDifferences_L117 v2 v6 v1 mf mn me mbl mby (fun ma_72 mb_73 mba_74 mw_75 =>
          itr8 (p_X6_readDifferences_L222 v2 v6 v1 a_67 mf me mw_75 (fun v4_76 mn_77 ma_78 mb_79 mba_80 mbl_81 mby_82 =>
              p_X6_readDifferences_J352 v4_76 v6 mn_77 ma_78 mb_79 mba_80 mbl_81 mby_82 mw_75 k80)) fu v4 (nI 0) mn ma_72 mb_73 mba_74 mbl mby)) fu (nI 0) ma_68 mb_69 mba_70 mw
  else
    some ((nI 1), mn, ma, mb, mba, mbl, mby, mw)
def p_X6_readDifferences (v1 : Int32) (v2 : Int32) (mf : Nat → Int32) (mn : Nat → Int64) (ma : Int32) (me : Int32) (mb : Int32) (mba : Int32) (mbl : Int32) (mby : Int32) (mw : Nat → Int32) : Option (Int32 × (Nat → Int64) × Int32 × Int32 × Int32 × Int32 × Int32 × (Nat → Int32)) :=
  bd4 (p_X6_wants (lN 128) ma mf ma me mb mba) <| fun a_1 ma_2 mb_3 mba_4 =>
  if a_1 = (nI 0) then
    some ((nI 0), mn, ma_2, mb_3, mba_4, mbl, mby, mw)
  else
    bd4 (p_X6_wants (lN 4) ma mf ma_2 me mb_3 mba_4) <| fun a_6 ma_7 mb_8 mba_9 =>
    if a_6 = (nI 0) then
      some ((nI 0), mn, ma_7, mb_8, mba_9, mbl, mby, mw)
    else
      bd4 (p_X6_wants (i2l v1) ma mf ma_7 me mb_8 mba_9) <| fun a_11 ma_12 mb_13 mba_14 =>
      if a_11 = (nI 0) then
        some ((nI 0), mn, ma_12, mb_13, mba_14, mbl, mby, mw)
      else
        bd4 (p_X6_readZig mf ma_12 me mb_13 mba_14) <| fun a_16 ma_17 mb_18 mba_19 =>
        if mb_18 = (nI 0) then
          if v2 = (nI 0) then
            gd (inb (nI 0) 500) <|
            itr9 (p_X6_readDifferences_L80 v1 v2 mf me ) fu a_16 (nI 1) (up mn (ix (nI 0)) a_16) ma_17 mb_18 mba_19 mbl mby mw
          else
            gd (inb (nI 0) 500) <|
            itr9 (p_X6_readDifferences_L80 v1 v2 mf me ) fu (i2l (l2i a_16)) (nI 1) (up mn (ix (nI 0)) (i2l (l2i a_16))) ma_17 mb_18 mba_19 mbl mby mw
        else
          some ((nI 0), mn, ma_17, mb_18, mba_19, mbl, mby, mw)
def p_X6_reads (v1 : Int32) (v2 : Int64) (mm : Nat → Int32) (mt : Nat → Int32) (mv : Nat → Int64) (mx : Nat → Int32) : Option ((Nat → Int32) × (Nat → Int32) × (Nat → Int64) × (Nat → Int32)) :=
  bd5 (p_X6_adds v1 (nI 1) v2 mm mt mv mx) <| fun a_1 mm_2 mt_3 mv_4 mx_5 =>
  some (mm_2, mt_3, mv_4, mx_5)
def p_X6_readLetters_L12 (v1 : Int32) (v2 : Int32) (v3 : Int32) (mf : Nat → Int32) (me : Int32) (k54 : (Nat → Int32) → Int32 → Int32 → Int32 → Option (Int32 × (Nat → Int32) × (Nat → Int32) × (Nat → Int64) × (Nat → Int32) × Int32 × Int32 × Int32)) (k12 : Int32 → (Nat → Int32) → Int32 → Int32 → Int32 → Option (Int32 × (Nat → Int32) × (Nat → Int32) × (Nat → Int64) × (Nat → Int32) × Int32 × Int32 × Int32)) (v4 : Int32) (mx : Nat → Int32) (ma : Int32) (mb : Int32) (mba : Int32) : Option (Int32 × (Nat → Int32) × (Nat → Int32) × (Nat → Int64) × (Nat → Int32) × Int32 × Int32 × Int32) :=
  if v4 < v2 then
    if mb = (nI 0) then
      bd4 (p_X6_next mf ma me mb mba) <| fun a_7 ma_8 mb_9 mba_10 =>
      gd (inb (((nI 40) * (((nI 200) * v1) + v3)) + v4) 56000) <|
      k12 (v4 + (nI 1)) (up mx (ix (((nI 40) * (((nI 200) * v1) + v3)) + v4)) (b8 a_7)) ma_8 mb_9 mba_10
    else
      k54 mx ma mb mba
  else
    k54 mx ma mb mba
def p_X6_readLetters_J54 (mm : Nat → Int32) (mt : Nat → Int32) (mv : Nat → Int64) (mx : Nat → Int32) (ma : Int32) (mb : Int32) (mba : Int32) : Option (Int32 × (Nat → Int32) × (Nat → Int32) × (Nat → Int64) × (Nat → Int32) × Int32 × Int32 × Int32) :=
  if mb = (nI 0) then
    some ((nI 1), mm, mt, mv, mx, ma, mb, mba)
  else
    some ((nI 0), mm, mt, mv, mx, ma, mb, mba)
def p_X6_readLetters (v1 : Int32) (v2 : Int32) (mm : Nat → Int32) (mt : Nat → Int32) (mv : Nat → Int64) (mx : Nat → Int32) (mf : Nat → Int32) (ma : Int32) (me : Int32) (mb : Int32) (mba : Int32) : Option (Int32 × (Nat → Int32) × (Nat → Int32) × (Nat → Int64) × (Nat → Int32) × Int32 × Int32 × Int32) :=
  bd5 (p_X6_adds v1 (nI 1) (i2l v2) mm mt mv mx) <| fun a_1 mm_2 mt_3 mv_4 mx_5 =>
  itr5 (p_X6_readLetters_L12 v1 v2 a_1 mf me (fun mx_13 ma_14 mb_15 mba_16 =>
      p_X6_readLetters_J54 mm_2 mt_3 mv_4 mx_13 ma_14 mb_15 mba_16)) fu (nI 0) mx_5 ma mb mba
def p_X6_readLength (v1 : Int32) (mf : Nat → Int32) (ma : Int32) (me : Int32) (mb : Int32) (mba : Int32) : Option (Int32 × Int32 × Int32 × Int32) :=
  bd4 (p_X6_readBytes (nI 4) mf ma me mb mba) <| fun a_1 ma_2 mb_3 mba_4 =>
  if mb_3 = (nI 0) then
    if (l2i a_1) < (nI 0) then
      bd3 (p_X6_fails (nI 10) ma mb_3 mba_4) <| fun a_6 mb_7 mba_8 =>
      some ((-1 : Int32), ma_2, mb_7, mba_8)
    else
      if (me - ma_2) < (l2i a_1) then
        bd3 (p_X6_fails (nI 10) ma mb_3 mba_4) <| fun a_10 mb_11 mba_12 =>
        some ((-1 : Int32), ma_2, mb_11, mba_12)
      else
        if v1 < (l2i a_1) then
          bd3 (p_X6_fails (nI 10) ma mb_3 mba_4) <| fun a_14 mb_15 mba_16 =>
          some ((-1 : Int32), ma_2, mb_15, mba_16)
        else
          some ((l2i a_1), ma_2, mb_3, mba_4)
  else
    some ((-1 : Int32), ma_2, mb_3, mba_4)
def p_X6_readPlain_J42 (v1 : Int32) (v2 : Int32) (s1 : Int32) (mm : Nat → Int32) (mt : Nat → Int32) (mv : Nat → Int64) (mx : Nat → Int32) (mf : Nat → Int32) (ma : Int32) (me : Int32) (mb : Int32) (mba : Int32) : Option (Int32 × (Nat → Int32) × (Nat → Int32) × (Nat → Int64) × (Nat → Int32) × Int32 × Int32 × Int32) :=
  bd4 (p_X6_readBytes s1 mf ma me mb mba) <| fun a_15 ma_16 mb_17 mba_18 =>
  if mb_17 = (nI 0) then
    if v2 = (nI 0) then
      bd4 (p_X6_reads v1 (i2l (l2i a_15)) mm mt mv mx) <| fun mm_20 mt_21 mv_22 mx_23 =>
      some ((nI 1), mm_20, mt_21, mv_22, mx_23, ma_16, mb_17, mba_18)
    else
      bd4 (p_X6_reads v1 a_15 mm mt mv mx) <| fun mm_25 mt_26 mv_27 mx_28 =>
      some ((nI 1), mm_25, mt_26, mv_27, mx_28, ma_16, mb_17, mba_18)
  else
    some ((nI 0), mm, mt, mv, mx, ma_16, mb_17, mba_18)
def p_X6_readPlain (v1 : Int32) (v2 : Int32) (mm : Nat → Int32) (mt : Nat → Int32) (mv : Nat → Int64) (mx : Nat → Int32) (mf : Nat → Int32) (ma : Int32) (me : Int32) (mb : Int32) (mba : Int32) : Option (Int32 × (Nat → Int32) × (Nat → Int32) × (Nat → Int64) × (Nat → Int32) × Int32 × Int32 × Int32) :=
  if v2 = (nI 2) then
    bd4 (p_X6_readLength (nI 40) mf ma me mb mba) <| fun a_1 ma_2 mb_3 mba_4 =>
    if a_1 < (nI 0) then
      some ((nI 0), mm, mt, mv, mx, ma_2, mb_3, mba_4)
    else
      bd8 (p_X6_readLetters v1 a_1 mm mt mv mx mf ma_2 me mb_3 mba_4) <| fun a_6 mm_7 mt_8 mv_9 mx_10 ma_11 mb_12 mba_13 =>
      if a_6 = (nI 0) then
        some ((nI 0), mm_7, mt_8, mv_9, mx_10, ma_11, mb_12, mba_13)
      else
        some ((nI 1), mm_7, mt_8, mv_9, mx_10, ma_11, mb_12, mba_13)
  else
    if v2 = (nI 0) then
      p_X6_readPlain_J42 v1 v2 (nI 4) mm mt mv mx mf ma me mb mba
    else
      p_X6_readPlain_J42 v1 v2 (nI 8) mm mt mv mx mf ma me mb mba
def p_X6_field (v1 : Int32) (mf : Nat → Int32) (ma : Int32) (me : Int32) (mb : Int32) (mba : Int32) : Option (Int32 × Int32 × Int32 × Int32) :=
  bd4 (p_X6_next mf ma me mb mba) <| fun a_1 ma_2 mb_3 mba_4 =>
  if mb_3 = (nI 0) then
    if a_1 = v1 then
      some ((nI 1), ma_2, mb_3, mba_4)
    else
      bd3 (p_X6_fails (nI 7) ma mb_3 mba_4) <| fun a_6 mb_7 mba_8 =>
      if a_6 = (nI 0) then
        some ((nI 0), ma_2, mb_7, mba_8)
      else
        some ((nI 1), ma_2, mb_7, mba_8)
  else
    some ((nI 0), ma_2, mb_3, mba_4)
def p_X6_fieldZig (mf : Nat → Int32) (ma : Int32) (me : Int32) (mb : Int32) (mba : Int32) (mz : Int32) : Option (Int64 × Int32 × Int32 × Int32 × Int32) :=
  bd4 (p_X6_readZig mf ma me mb mba) <| fun a_1 ma_2 mb_3 mba_4 =>
  some (a_1, ma_2, mb_3, mba_4, ma)
def p_X6_readInner_J190 (v2 : Int64) (v4 : Int32) (ma : Int32) (mb : Int32) (mba : Int32) (mz : Int32) (mco : Int32) : Option (Int32 × Int32 × Int32 × Int32 × Int32 × Int32 × Int32) :=
  if v4 = (nI 0) then
    bd3 (p_X6_fails (nI 8) mz mb mba) <| fun a_39 mb_40 mba_41 =>
    if a_39 = (nI 0) then
      some ((nI 0), ma, mb_40, mba_41, mz, mco, (l2i v2))
    else
      some ((nI 1), ma, mb_40, mba_41, mz, mco, (l2i v2))
  else
    some ((nI 1), ma, mb, mba, mz, mco, (l2i v2))
def p_X6_readInner_J188 (v2 : Int64) (s0 : Int32) (ma : Int32) (mb : Int32) (mba : Int32) (mz : Int32) (mco : Int32) : Option (Int32 × Int32 × Int32 × Int32 × Int32 × Int32 × Int32) :=
  p_X6_readInner_J190 v2 s0 ma mb mba mz mco
def p_X6_readInner_J183 (v2 : Int64) (ma : Int32) (mb : Int32) (mba : Int32) (mz : Int32) (mco : Int32) : Option (Int32 × Int32 × Int32 × Int32 × Int32 × Int32 × Int32) :=
  p_X6_readInner_J188 v2 (nI 1) ma mb mba mz mco
def p_X6_readInner_J187 (v2 : Int64) (ma : Int32) (mb : Int32) (mba : Int32) (mz : Int32) (mco : Int32) : Option (Int32 × Int32 × Int32 × Int32 × Int32 × Int32 × Int32) :=
  p_X6_readInner_J188 v2 (nI 0) ma mb mba mz mco
def p_X6_readInner_J168 (v2 : Int64) (ma : Int32) (mb : Int32) (mba : Int32) (mdi : Int32) (mz : Int32) (mco : Int32) : Option (Int32 × Int32 × Int32 × Int32 × Int32 × Int32 × Int32) :=
  if v2 = (lN 8) then
    if mdi < (nI 0) then
      p_X6_readInner_J187 v2 ma mb mba mz mco
    else
      p_X6_readInner_J183 v2 ma mb mba mz mco
  else
    p_X6_readInner_J187 v2 ma mb mba mz mco
def p_X6_readInner_J155 (v1 : Int32) (v2 : Int64) (ma : Int32) (mb : Int32) (mba : Int32) (mdi : Int32) (mz : Int32) (mco : Int32) : Option (Int32 × Int32 × Int32 × Int32 × Int32 × Int32 × Int32) :=
  if v2 = (lN 3) then
    if v1 = (nI 3) then
      p_X6_readInner_J183 v2 ma mb mba mz mco
    else
      p_X6_readInner_J168 v2 ma mb mba mdi mz mco
  else
    p_X6_readInner_J168 v2 ma mb mba mdi mz mco
def p_X6_readInner_J142 (v1 : Int32) (v2 : Int64) (ma : Int32) (mb : Int32) (mba : Int32) (mdi : Int32) (mz : Int32) (mco : Int32) : Option (Int32 × Int32 × Int32 × Int32 × Int32 × Int32 × Int32) :=
  if v2 = (lN 6) then
    if v1 = (nI 2) then
      p_X6_readInner_J183 v2 ma mb mba mz mco
    else
      p_X6_readInner_J155 v1 v2 ma mb mba mdi mz mco
  else
    p_X6_readInner_J155 v1 v2 ma mb mba mdi mz mco
def p_X6_readInner_J115 (v1 : Int32) (v2 : Int64) (s0 : Int32) (ma : Int32) (mb : Int32) (mba : Int32) (mdi : Int32) (mz : Int32) (mso : Int32) (mco : Int32) : Option (Int32 × Int32 × Int32 × Int32 × Int32 × Int32 × Int32) :=
  if mso = (nI 0) then
    if s0 = (nI 0) then
      if v2 = (lN 5) then
        if v1 < (nI 2) then
          p_X6_readInner_J183 v2 ma mb mba mz mco
        else
          p_X6_readInner_J142 v1 v2 ma mb mba mdi mz mco
      else
        p_X6_readInner_J142 v1 v2 ma mb mba mdi mz mco
    else
      p_X6_readInner_J183 v2 ma mb mba mz mco
  else
    p_X6_readInner_J190 v2 s0 ma mb mba mz mco
def p_X6_readInner_J73 (v1 : Int32) (v2 : Int64) (mf : Nat → Int32) (ma : Int32) (me : Int32) (mb : Int32) (mba : Int32) (mdi : Int32) (mz : Int32) (mso : Int32) (mcd : Int32) : Option (Int32 × Int32 × Int32 × Int32 × Int32 × Int32 × Int32) :=
  bd4 (p_X6_field (nI 21) mf ma me mb mba) <| fun a_28 ma_29 mb_30 mba_31 =>
  if a_28 = (nI 0) then
    some ((nI 0), ma_29, mb_30, mba_31, mz, (l2i v2), mcd)
  else
    bd5 (p_X6_fieldZig mf ma_29 me mb_30 mba_31 mz) <| fun a_33 ma_34 mb_35 mba_36 mz_37 =>
    if mb_35 = (nI 0) then
      if a_33 = (lN 0) then
        p_X6_readInner_J115 v1 a_33 (nI 1) ma_34 mb_35 mba_36 mdi mz_37 mso (l2i v2)
      else
        p_X6_readInner_J115 v1 a_33 (nI 0) ma_34 mb_35 mba_36 mdi mz_37 mso (l2i v2)
    else
      some ((nI 0), ma_34, mb_35, mba_36, mz_37, (l2i v2), mcd)
def p_X6_readInner (v1 : Int32) (mm : Nat → Int32) (mf : Nat → Int32) (ma : Int32) (me : Int32) (mb : Int32) (mba : Int32) (mdi : Int32) (mz : Int32) (mso : Int32) (mco : Int32) (mcd : Int32) : Option (Int32 × Int32 × Int32 × Int32 × Int32 × Int32 × Int32) :=
  bd4 (p_X6_field (nI 21) mf ma me mb mba) <| fun a_1 ma_2 mb_3 mba_4 =>
  if a_1 = (nI 0) then
    some ((nI 0), ma_2, mb_3, mba_4, mz, mco, mcd)
  else
    bd5 (p_X6_fieldZig mf ma_2 me mb_3 mba_4 mz) <| fun a_6 ma_7 mb_8 mba_9 mz_10 =>
    if mb_8 = (nI 0) then
      if a_6 < (lN 0) then
        bd3 (p_X6_fails (nI 8) mz_10 mb_8 mba_9) <| fun a_12 mb_13 mba_14 =>
        gd (isB a_12) <|
        some (a_12, ma_7, mb_13, mba_14, mz_10, mco, mcd)
      else
        if (lN 200) < a_6 then
          bd3 (p_X6_fails (nI 8) mz_10 mb_8 mba_9) <| fun a_17 mb_18 mba_19 =>
          gd (isB a_17) <|
          some (a_17, ma_7, mb_18, mba_19, mz_10, mco, mcd)
        else
          if mso = (nI 0) then
            gd (inb (nI 4) 7) <|
            if (lN 200) < (a_6 + (i2l (mm (ix (nI 4))))) then
              bd3 (p_X6_fails (nI 8) mz_10 mb_8 mba_9) <| fun a_23 mb_24 mba_25 =>
              gd (isB a_23) <|
              some (a_23, ma_7, mb_24, mba_25, mz_10, mco, mcd)
            else
              p_X6_readInner_J73 v1 a_6 mf ma_7 me mb_8 mba_9 mdi mz_10 mso mcd
          else
            p_X6_readInner_J73 v1 a_6 mf ma_7 me mb_8 mba_9 mdi mz_10 mso mcd
    else
      some ((nI 0), ma_7, mb_8, mba_9, mz_10, mco, mcd)
def p_X6_readHead_J218 (v1 : Int32) (s1 : Int32) (mm : Nat → Int32) (mf : Nat → Int32) (ma : Int32) (me : Int32) (mb : Int32) (mba : Int32) (mdi : Int32) (mz : Int32) (mso : Int32) (mbo : Int32) (mco : Int32) (mcd : Int32) : Option (Int32 × Int32 × Int32 × Int32 × Int32 × Int32 × Int32 × Int32 × Int32 × Int32) :=
  bd4 (p_X6_field s1 mf ma me mb mba) <| fun a_49 ma_50 mb_51 mba_52 =>
  if a_49 = (nI 0) then
    some ((nI 0), ma_50, me, mb_51, mba_52, mz, mso, mbo, mco, mcd)
  else
    bd7 (p_X6_readInner v1 mm mf ma_50 me mb_51 mba_52 mdi mz mso mco mcd) <| fun a_54 ma_55 mb_56 mba_57 mz_58 mco_59 mcd_60 =>
    if a_54 = (nI 0) then
      some ((nI 0), ma_55, me, mb_56, mba_57, mz_58, mso, mbo, mco_59, mcd_60)
    else
      bd4 (p_X6_field (nI 0) mf ma_55 me mb_56 mba_57) <| fun a_62 ma_63 mb_64 mba_65 =>
      if a_62 = (nI 0) then
        some ((nI 0), ma_63, me, mb_64, mba_65, mz_58, mso, mbo, mco_59, mcd_60)
      else
        bd4 (p_X6_field (nI 0) mf ma_63 me mb_64 mba_65) <| fun a_67 ma_68 mb_69 mba_70 =>
        if a_67 = (nI 0) then
          some ((nI 0), ma_68, me, mb_69, mba_70, mz_58, mso, mbo, mco_59, mcd_60)
        else
          some ((nI 1), ma_68, me, mb_69, mba_70, mz_58, mso, mbo, mco_59, mcd_60)
def p_X6_readHead_J94 (v1 : Int32) (mm : Nat → Int32) (mf : Nat → Int32) (ms : Int32) (ma : Int32) (me : Int32) (mb : Int32) (mba : Int32) (mdi : Int32) (mz : Int32) (mso : Int32) (mbo : Int32) (mco : Int32) (mcd : Int32) : Option (Int32 × Int32 × Int32 × Int32 × Int32 × Int32 × Int32 × Int32 × Int32 × Int32) :=
  bd4 (p_X6_field (nI 21) mf ma me mb mba) <| fun a_17 ma_18 mb_19 mba_20 =>
  if a_17 = (nI 0) then
    some ((nI 0), ma_18, me, mb_19, mba_20, mz, mso, mbo, mco, mcd)
  else
    bd5 (p_X6_fieldZig mf ma_18 me mb_19 mba_20 mz) <| fun a_22 ma_23 mb_24 mba_25 mz_26 =>
    if mb_24 = (nI 0) then
      if a_22 < (lN 0) then
        bd3 (p_X6_fails (nI 8) mz_26 mb_24 mba_25) <| fun a_28 mb_29 mba_30 =>
        gd (isB a_28) <|
        some (a_28, ma_23, me, mb_29, mba_30, mz_26, mso, mbo, mco, mcd)
      else
        if (i2l (ms - ma_23)) < a_22 then
          bd3 (p_X6_fails (nI 8) mz_26 mb_24 mba_25) <| fun a_33 mb_34 mba_35 =>
          gd (isB a_33) <|
          some (a_33, ma_23, me, mb_34, mba_35, mz_26, mso, mbo, mco, mcd)
        else
          bd4 (p_X6_field (nI 21) mf ma_23 me mb_24 mba_25) <| fun a_38 ma_39 mb_40 mba_41 =>
          if a_38 = (nI 0) then
            some ((nI 0), ma_39, me, mb_40, mba_41, mz_26, mso, (l2i a_22), mco, mcd)
          else
            bd5 (p_X6_fieldZig mf ma_39 me mb_40 mba_41 mz_26) <| fun a_43 ma_44 mb_45 mba_46 mz_47 =>
            if mb_45 = (nI 0) then
              if a_43 = (i2l (l2i a_22)) then
                if mso = (nI 0) then
                  p_X6_readHead_J218 v1 (nI 44) mm mf ma_44 me mb_45 mba_46 mdi mz_47 mso (l2i a_22) mco mcd
                else
                  p_X6_readHead_J218 v1 (nI 76) mm mf ma_44 me mb_45 mba_46 mdi mz_47 mso (l2i a_22) mco mcd
              else
                bd3 (p_X6_fails (nI 8) mz_47 mb_45 mba_46) <| fun a_72 mb_73 mba_74 =>
                gd (isB a_72) <|
                some (a_72, ma_44, me, mb_73, mba_74, mz_47, mso, (l2i a_22), mco, mcd)
            else
              some ((nI 0), ma_44, me, mb_45, mba_46, mz_47, mso, (l2i a_22), mco, mcd)
    else
      some ((nI 0), ma_23, me, mb_24, mba_25, mz_26, mso, mbo, mco, mcd)
def p_X6_readHead_J68 (v1 : Int32) (v2 : Int32) (v3 : Int64) (mm : Nat → Int32) (mf : Nat → Int32) (ms : Int32) (ma : Int32) (me : Int32) (mb : Int32) (mba : Int32) (mdi : Int32) (mz : Int32) (mbo : Int32) (mco : Int32) (mcd : Int32) : Option (Int32 × Int32 × Int32 × Int32 × Int32 × Int32 × Int32 × Int32 × Int32 × Int32) :=
  if (l2i v3) = (nI 2) then
    if (nI 0) < v2 then
      bd3 (p_X6_fails (nI 9) v2 mb mba) <| fun a_12 mb_13 mba_14 =>
      gd (isB a_12) <|
      some (a_12, ma, me, mb_13, mba_14, mz, (l2i v3), mbo, mco, mcd)
    else
      p_X6_readHead_J94 v1 mm mf ms ma me mb mba mdi mz (l2i v3) mbo mco mcd
  else
    p_X6_readHead_J94 v1 mm mf ms ma me mb mba mdi mz (l2i v3) mbo mco mcd
def p_X6_readHead (v1 : Int32) (mm : Nat → Int32) (mf : Nat → Int32) (ms : Int32) (ma : Int32) (me : Int32) (mb : Int32) (mba : Int32) (mdi : Int32) (mz : Int32) (mso : Int32) (mbo : Int32) (mco : Int32) (mcd : Int32) : Option (Int32 × Int32 × Int32 × Int32 × Int32 × Int32 × Int32 × Int32 × Int32 × Int32) :=
  bd4 (p_X6_field (nI 21) mf ma ms mb mba) <| fun a_1 ma_2 mb_3 mba_4 =>
  if a_1 = (nI 0) then
    some ((nI 0), ma_2, ms, mb_3, mba_4, mz, mso, mbo, mco, mcd)
  else
    bd5 (p_X6_fieldZig mf ma_2 ms mb_3 mba_4 mz) <| fun a_6 ma_7 mb_8 mba_9 mz_10 =>
    if mb_8 = (nI 0) then
      if a_6 = (lN 0) then
        p_X6_readHead_J68 v1 ma a_6 mm mf ms ma_7 ms mb_8 mba_9 mdi mz_10 mbo mco mcd
      else
        if a_6 = (lN 2) then
          if v1 = (nI 3) then
            bd3 (p_X6_fails (nI 8) mz_10 mb_8 mba_9) <| fun a_77 mb_78 mba_79 =>
            gd (isB a_77) <|
            some (a_77, ma_7, ms, mb_78, mba_79, mz_10, mso, mbo, mco, mcd)
          else
            p_X6_readHead_J68 v1 ma a_6 mm mf ms ma_7 ms mb_8 mba_9 mdi mz_10 mbo mco mcd
        else
          bd3 (p_X6_fails (nI 8) mz_10 mb_8 mba_9) <| fun a_82 mb_83 mba_84 =>
          gd (isB a_82) <|
          some (a_82, ma_7, ms, mb_83, mba_84, mz_10, mso, mbo, mco, mcd)
    else
      some ((nI 0), ma_7, ms, mb_8, mba_9, mz_10, mso, mbo, mco, mcd)
def p_X6_isOver (v1 : Int32) (ma : Int32) (mb : Int32) (mba : Int32) : Option (Int32 × Int32 × Int32) :=
  if ma = v1 then
    some ((nI 1), mb, mba)
  else
    bd3 (p_X6_fails (nI 13) ma mb mba) <| fun a_1 mb_2 mba_3 =>
    if a_1 = (nI 0) then
      some ((nI 0), mb_2, mba_3)
    else
      some ((nI 1), mb_2, mba_3)
def p_X6_readPlaces_L53 (v1 : Int32) (v4 : Int32) (mm : Nat → Int32) (mt : Nat → Int32) (mv : Nat → Int64) (mx : Nat → Int32) (mn : Nat → Int64) (ma : Int32) (mb : Int32) (mba : Int32) (mdi : Int32) (mbl : Int32) (mby : Int32) (k90 : Option (Int32 × (Nat → Int32) × (Nat → Int32) × (Nat → Int64) × (Nat → Int32) × (Nat → Int64) × Int32 × Int32 × Int32 × Int32 × Int32)) (k53 : Int32 → Option (Int32 × (Nat → Int32) × (Nat → Int32) × (Nat → Int64) × (Nat → Int32) × (Nat → Int64) × Int32 × Int32 × Int32 × Int32 × Int32)) (v5 : Int32) : Option (Int32 × (Nat → Int32) × (Nat → Int32) × (Nat → Int64) × (Nat → Int32) × (Nat → Int64) × Int32 × Int32 × Int32 × Int32 × Int32) :=
  if v5 < v1 then
    gd (inb v5 500) <|
    if (mn (ix v5)) < (i2l mdi) then
      k53 (v5 + (nI 1))
    else
      bd3 (p_X6_fails (nI 12) v4 mb mba) <| fun a_20 mb_21 mba_22 =>
      gd (isB a_20) <|
      some (a_20, mm, mt, mv, mx, mn, ma, mb_21, mba_22, mbl, mby)
  else
    k90
def p_X6_readPlaces_L93 (v1 : Int32) (mn : Nat → Int64) (ma : Int32) (mb : Int32) (mba : Int32) (mbl : Int32) (mby : Int32) (k93 : Int32 → (Nat → Int32) → (Nat → Int32) → (Nat → Int64) → (Nat → Int32) → Option (Int32 × (Nat → Int32) × (Nat → Int32) × (Nat → Int64) × (Nat → Int32) × (Nat → Int64) × Int32 × Int32 × Int32 × Int32 × Int32)) (v5 : Int32) (mm : Nat → Int32) (mt : Nat → Int32) (mv : Nat → Int64) (mx : Nat → Int32) : Option (Int32 × (Nat → Int32) × (Nat → Int32) × (Nat → Int64) × (Nat → Int32) × (Nat → Int64) × Int32 × Int32 × Int32 × Int32 × Int32) :=
  if v5 < v1 then
    bd5 (p_X6_adds (nI 6) (nI 1) (lN 0) mm mt mv mx) <| fun a_25 mm_26 mt_27 mv_28 mx_29 =>
    gd (inb v5 500) <|
    bd3 (p_X6_copies ((nI 1200) + a_25) ((nI 1000) + (l2i (mn (ix v5)))) mt_27 mv_28 mx_29) <| fun mt_32 mv_33 mx_34 =>
    k93 (v5 + (nI 1)) mm_26 mt_32 mv_33 mx_34
  else
    some ((nI 1), mm, mt, mv, mx, mn, ma, mb, mba, mbl, mby)
def p_X6_readPlaces (v1 : Int32) (mm : Nat → Int32) (mt : Nat → Int32) (mv : Nat → Int64) (mx : Nat → Int32) (mf : Nat → Int32) (mn : Nat → Int64) (ma : Int32) (me : Int32) (mb : Int32) (mba : Int32) (mdi : Int32) (mbl : Int32) (mby : Int32) : Option (Int32 × (Nat → Int32) × (Nat → Int32) × (Nat → Int64) × (Nat → Int32) × (Nat → Int64) × Int32 × Int32 × Int32 × Int32 × Int32) :=
  bd4 (p_X6_next mf ma me mb mba) <| fun a_1 ma_2 mb_3 mba_4 =>
  if mb_3 = (nI 0) then
    if (nI 32) < a_1 then
      bd3 (p_X6_fails (nI 11) ma mb_3 mba_4) <| fun a_6 mb_7 mba_8 =>
      gd (isB a_6) <|
      some (a_6, mm, mt, mv, mx, mn, ma_2, mb_7, mba_8, mbl, mby)
    else
      bd7 (p_X6_readRuns v1 a_1 mf mn ma_2 me mb_3 mba_4 mbl mby) <| fun a_11 mn_12 ma_13 mb_14 mba_15 mbl_16 mby_17 =>
      if a_11 = (nI 0) then
        some ((nI 0), mm, mt, mv, mx, mn_12, ma_13, mb_14, mba_15, mbl_16, mby_17)
      else
        itr1 (p_X6_readPlaces_L53 v1 ma_2 mm mt mv mx mn_12 ma_13 mb_14 mba_15 mdi mbl_16 mby_17 (
            itr5 (p_X6_readPlaces_L93 v1 mn_12 ma_13 mb_14 mba_15 mbl_16 mby_17 ) fu (nI 0) mm mt mv mx)) fu (nI 0)
  else
    some ((nI 0), mm, mt, mv, mx, mn, ma_2, mb_3, mba_4, mbl, mby)
def p_X6_readTexts_J52 (v3 : Int64) (v6 : Int32) (s0 : Int32) (mn : Nat → Int64) (k19 : Int64 → Int32 → Int32 → Option (Int32 × (Nat → Int32) × (Nat → Int32) × (Nat → Int64) × (Nat → Int32) × (Nat → Int64) × Int32 × Int32 × Int32 × Int32 × Int32 × (Nat → Int32))) : Option (Int32 × (Nat → Int32) × (Nat → Int32) × (Nat → Int64) × (Nat → Int32) × (Nat → Int64) × Int32 × Int32 × Int32 × Int32 × Int32 × (Nat → Int32)) :=
  gd (inb v6 500) <|
  k19 (v3 + (mn (ix v6))) s0 (v6 + (nI 1))
def p_X6_readTexts_J51 (v3 : Int64) (v6 : Int32) (mn : Nat → Int64) (k19 : Int64 → Int32 → Int32 → Option (Int32 × (Nat → Int32) × (Nat → Int32) × (Nat → Int64) × (Nat → Int32) × (Nat → Int64) × Int32 × Int32 × Int32 × Int32 × Int32 × (Nat → Int32))) : Option (Int32 × (Nat → Int32) × (Nat → Int32) × (Nat → Int64) × (Nat → Int32) × (Nat → Int64) × Int32 × Int32 × Int32 × Int32 × Int32 × (Nat → Int32)) :=
  p_X6_readTexts_J52 v3 v6 (nI 0) mn k19
def p_X6_readTexts_L19 (v1 : Int32) (mn : Nat → Int64) (k70 : Int64 → Int32 → Option (Int32 × (Nat → Int32) × (Nat → Int32) × (Nat → Int64) × (Nat → Int32) × (Nat → Int64) × Int32 × Int32 × Int32 × Int32 × Int32 × (Nat → Int32))) (k19 : Int64 → Int32 → Int32 → Option (Int32 × (Nat → Int32) × (Nat → Int32) × (Nat → Int64) × (Nat → Int32) × (Nat → Int64) × Int32 × Int32 × Int32 × Int32 × Int32 × (Nat → Int32))) (v3 : Int64) (v5 : Int32) (v6 : Int32) : Option (Int32 × (Nat → Int32) × (Nat → Int32) × (Nat → Int64) × (Nat → Int32) × (Nat → Int64) × Int32 × Int32 × Int32 × Int32 × Int32 × (Nat → Int32)) :=
  if v6 < v1 then
    if v5 = (nI 0) then
      p_X6_readTexts_J51 v3 v6 mn k19
    else
      gd (inb v6 500) <|
      bd1 (p_X6_in (mn (ix v6)) (lN 0) (lN 40)) <| fun a_12 =>
      if a_12 = (nI 0) then
        p_X6_readTexts_J51 v3 v6 mn k19
      else
        p_X6_readTexts_J52 v3 v6 (nI 1) mn k19
  else
    k70 v3 v5
def p_X6_readTexts_L101 (v1 : Int32) (mf : Nat → Int32) (mn : Nat → Int64) (me : Int32) (mbl : Int32) (mby : Int32) (mw : Nat → Int32) (k101 : Int32 → (Nat → Int32) → (Nat → Int32) → (Nat → Int64) → (Nat → Int32) → Int32 → Int32 → Int32 → Option (Int32 × (Nat → Int32) × (Nat → Int32) × (Nat → Int64) × (Nat → Int32) × (Nat → Int64) × Int32 × Int32 × Int32 × Int32 × Int32 × (Nat → Int32))) (v6 : Int32) (mm : Nat → Int32) (mt : Nat → Int32) (mv : Nat → Int64) (mx : Nat → Int32) (ma : Int32) (mb : Int32) (mba : Int32) : Option (Int32 × (Nat → Int32) × (Nat → Int32) × (Nat → Int64) × (Nat → Int32) × (Nat → Int64) × Int32 × Int32 × Int32 × Int32 × Int32 × (Nat → Int32)) :=
  if v6 < v1 then
    gd (inb v6 500) <|
    bd8 (p_X6_readLetters (nI 6) (l2i (mn (ix v6))) mm mt mv mx mf ma me mb mba) <| fun a_27 mm_28 mt_29 mv_30 mx_31 ma_32 mb_33 mba_34 =>
    if a_27 = (nI 0) then
      some ((nI 0), mm_28, mt_29, mv_30, mx_31, mn, ma_32, mb_33, mba_34, mbl, mby, mw)
    else
      k101 (v6 + (nI 1)) mm_28 mt_29 mv_30 mx_31 ma_32 mb_33 mba_34
  else
    some ((nI 1), mm, mt, mv, mx, mn, ma, mb, mba, mbl, mby, mw)
def p_X6_readTexts (v1 : Int32) (v2 : Int32) (mm : Nat → Int32) (mt : Nat → Int32) (mv : Nat → Int64) (mx : Nat → Int32) (mf : Nat → Int32) (mn : Nat → Int64) (ma : Int32) (me : Int32) (mb : Int32) (mba : Int32) (mbl : Int32) (mby : Int32) (mw : Nat → Int32) : Option (Int32 × (Nat → Int32) × (Nat → Int32) × (Nat → Int64) × (Nat → Int32) × (Nat → Int64) × Int32 × Int32 × Int32 × Int32 × Int32 × (Nat → Int32)) :=
  bd8 (p_X6_readDifferences v1 (nI 1) mf mn ma me mb mba mbl mby mw) <| fun a_1 mn_2 ma_3 mb_4 mba_5 mbl_6 mby_7 mw_8 =>
  if a_1 = (nI 0) then
    some ((nI 0), mm, mt, mv, mx, mn_2, ma_3, mb_4, mba_5, mbl_6, mby_7, mw_8)
  else
    itr3 (p_X6_readTexts_L19 v1 mn_2 (fun v3_14 v5_15 =>
        if v5_15 = (nI 0) then
          bd3 (p_X6_fails (nI 10) ma_3 mb_4 mba_5) <| fun a_16 mb_17 mba_18 =>
          gd (isB a_16) <|
          some (a_16, mm, mt, mv, mx, mn_2, ma_3, mb_17, mba_18, mbl_6, mby_7, mw_8)
        else
          if (i2l (v2 - ma_3)) < v3_14 then
            bd3 (p_X6_fails (nI 10) ma_3 mb_4 mba_5) <| fun a_21 mb_22 mba_23 =>
            gd (isB a_21) <|
            some (a_21, mm, mt, mv, mx, mn_2, ma_3, mb_22, mba_23, mbl_6, mby_7, mw_8)
          else
            itr8 (p_X6_readTexts_L101 v1 mf mn_2 me mbl_6 mby_7 mw_8 ) fu (nI 0) mm mt mv mx ma_3 mb_4 mba_5)) fu (lN 0) (nI 1) (nI 0)
def p_X6_readValues_L33 (v2 : Int32) (mf : Nat → Int32) (mn : Nat → Int64) (me : Int32) (mw : Nat → Int32) (k33 : Int32 → (Nat → Int32) → (Nat → Int32) → (Nat → Int64) → (Nat → Int32) → Int32 → Int32 → Int32 → Int32 → Int32 → Option (Int32 × (Nat → Int32) × (Nat → Int32) × (Nat → Int64) × (Nat → Int32) × (Nat → Int64) × Int32 × Int32 × Int32 × Int32 × Int32 × Int32 × (Nat → Int32))) (v4 : Int32) (mm : Nat → Int32) (mt : Nat → Int32) (mv : Nat → Int64) (mx : Nat → Int32) (ma : Int32) (mb : Int32) (mba : Int32) (mbl : Int32) (mby : Int32) : Option (Int32 × (Nat → Int32) × (Nat → Int32) × (Nat → Int64) × (Nat → Int32) × (Nat → Int64) × Int32 × Int32 × Int32 × Int32 × Int32 × Int32 × (Nat → Int32)) :=
  if v4 < v2 then
    bd6 (p_X6_readPacked (nI 1) mf ma me mb mba mbl mby) <| fun a_2 ma_3 mb_4 mba_5 mbl_6 mby_7 =>
    if mb_4 = (nI 0) then
      bd4 (p_X6_reads (nI 6) a_2 mm mt mv mx) <| fun mm_9 mt_10 mv_11 mx_12 =>
      k33 (v4 + (nI 1)) mm_9 mt_10 mv_11 mx_12 ma_3 mb_4 mba_5 mbl_6 mby_7
    else
      some ((nI 0), mm, mt, mv, mx, mn, ma_3, me, mb_4, mba_5, mbl_6, mby_7, mw)
  else
    some ((nI 1), mm, mt, mv, mx, mn, ma, me, mb, mba, mbl, mby, mw)
def p_X6_readValues_L84 (v1 : Int32) (v2 : Int32) (mf : Nat → Int32) (mn : Nat → Int64) (me : Int32) (mbl : Int32) (mby : Int32) (mw : Nat → Int32) (k84 : Int32 → Int32 → (Nat → Int32) → (Nat → Int32) → (Nat → Int64) → (Nat → Int32) → Int32 → Int32 → Int32 → Option (Int32 × (Nat → Int32) × (Nat → Int32) × (Nat → Int64) × (Nat → Int32) × (Nat → Int64) × Int32 × Int32 × Int32 × Int32 × Int32 × Int32 × (Nat → Int32))) (v4 : Int32) (v5 : Int32) (mm : Nat → Int32) (mt : Nat → Int32) (mv : Nat → Int64) (mx : Nat → Int32) (ma : Int32) (mb : Int32) (mba : Int32) : Option (Int32 × (Nat → Int32) × (Nat → Int32) × (Nat → Int64) × (Nat → Int32) × (Nat → Int64) × Int32 × Int32 × Int32 × Int32 × Int32 × Int32 × (Nat → Int32)) :=
  if v5 < v2 then
    if v4 = (nI 0) then
      gd (isB v4) <|
      some (v4, mm, mt, mv, mx, mn, ma, me, mb, mba, mbl, mby, mw)
    else
      bd8 (p_X6_readPlain (nI 6) v1 mm mt mv mx mf ma me mb mba) <| fun a_15 mm_16 mt_17 mv_18 mx_19 ma_20 mb_21 mba_22 =>
      k84 a_15 (v5 + (nI 1)) mm_16 mt_17 mv_18 mx_19 ma_20 mb_21 mba_22
  else
    gd (isB v4) <|
    some (v4, mm, mt, mv, mx, mn, ma, me, mb, mba, mbl, mby, mw)
def p_X6_readValues_L143 (v2 : Int32) (mn : Nat → Int64) (ma : Int32) (me : Int32) (mb : Int32) (mba : Int32) (mbl : Int32) (mby : Int32) (mw : Nat → Int32) (k143 : Int32 → (Nat → Int32) → (Nat → Int32) → (Nat → Int64) → (Nat → Int32) → Option (Int32 × (Nat → Int32) × (Nat → Int32) × (Nat → Int64) × (Nat → Int32) × (Nat → Int64) × Int32 × Int32 × Int32 × Int32 × Int32 × Int32 × (Nat → Int32))) (v4 : Int32) (mm : Nat → Int32) (mt : Nat → Int32) (mv : Nat → Int64) (mx : Nat → Int32) : Option (Int32 × (Nat → Int32) × (Nat → Int32) × (Nat → Int64) × (Nat → Int32) × (Nat → Int64) × Int32 × Int32 × Int32 × Int32 × Int32 × Int32 × (Nat → Int32)) :=
  if v4 < v2 then
    gd (inb v4 500) <|
    bd4 (p_X6_reads (nI 6) (mn (ix v4)) mm mt mv mx) <| fun mm_35 mt_36 mv_37 mx_38 =>
    k143 (v4 + (nI 1)) mm_35 mt_36 mv_37 mx_38
  else
    some ((nI 1), mm, mt, mv, mx, mn, ma, me, mb, mba, mbl, mby, mw)
def p_X6_readValues_J132 (v2 : Int32) (s1 : Int32) (s2 : Int32) (mm : Nat → Int32) (mt : Nat → Int32) (mv : Nat → Int64) (mx : Nat → Int32) (mf : Nat → Int32) (mn : Nat → Int64) (ma : Int32) (me : Int32) (mb : Int32) (mba : Int32) (mbl : Int32) (mby : Int32) (mw : Nat → Int32) : Option (Int32 × (Nat → Int32) × (Nat → Int32) × (Nat → Int64) × (Nat → Int32) × (Nat → Int64) × Int32 × Int32 × Int32 × Int32 × Int32 × Int32 × (Nat → Int32)) :=
  bd8 (p_X6_readDifferences s1 s2 mf mn ma me mb mba mbl mby mw) <| fun a_25 mn_26 ma_27 mb_28 mba_29 mbl_30 mby_31 mw_32 =>
  if a_25 = (nI 0) then
    some ((nI 0), mm, mt, mv, mx, mn_26, ma_27, me, mb_28, mba_29, mbl_30, mby_31, mw_32)
  else
    itr5 (p_X6_readValues_L143 v2 mn_26 ma_27 me mb_28 mba_29 mbl_30 mby_31 mw_32 ) fu (nI 0) mm mt mv mx
def p_X6_readValues_L258 (v2 : Int32) (mn : Nat → Int64) (ma : Int32) (me : Int32) (mb : Int32) (mba : Int32) (mbl : Int32) (mby : Int32) (mw : Nat → Int32) (k258 : Int32 → (Nat → Int32) → (Nat → Int32) → (Nat → Int64) → (Nat → Int32) → Option (Int32 × (Nat → Int32) × (Nat → Int32) × (Nat → Int64) × (Nat → Int32) × (Nat → Int64) × Int32 × Int32 × Int32 × Int32 × Int32 × Int32 × (Nat → Int32))) (v5 : Int32) (mm : Nat → Int32) (mt : Nat → Int32) (mv : Nat → Int64) (mx : Nat → Int32) : Option (Int32 × (Nat → Int32) × (Nat → Int32) × (Nat → Int64) × (Nat → Int32) × (Nat → Int64) × Int32 × Int32 × Int32 × Int32 × Int32 × Int32 × (Nat → Int32)) :=
  if v5 < v2 then
    gd (inb v5 500) <|
    bd4 (p_X6_reads (nI 6) (mn (ix v5)) mm mt mv mx) <| fun mm_85 mt_86 mv_87 mx_88 =>
    k258 (v5 + (nI 1)) mm_85 mt_86 mv_87 mx_88
  else
    some ((nI 1), mm, mt, mv, mx, mn, ma, me, mb, mba, mbl, mby, mw)
def p_X6_readValues_J71 (v1 : Int32) (v2 : Int32) (v3 : Int32) (mm : Nat → Int32) (mt : Nat → Int32) (mv : Nat → Int64) (mx : Nat → Int32) (mf : Nat → Int32) (mn : Nat → Int64) (ma : Int32) (me : Int32) (mb : Int32) (mba : Int32) (mdi : Int32) (mbl : Int32) (mby : Int32) (mw : Nat → Int32) (mcd : Int32) : Option (Int32 × (Nat → Int32) × (Nat → Int32) × (Nat → Int64) × (Nat → Int32) × (Nat → Int64) × Int32 × Int32 × Int32 × Int32 × Int32 × Int32 × (Nat → Int32)) :=
  if mcd = (nI 0) then
    itr9 (p_X6_readValues_L84 v1 v2 mf mn me mbl mby mw ) fu (nI 1) (nI 0) mm mt mv mx ma mb mba
  else
    if mcd = (nI 5) then
      if v1 = (nI 0) then
        p_X6_readValues_J132 v2 v2 (nI 1) mm mt mv mx mf mn ma me mb mba mbl mby mw
      else
        p_X6_readValues_J132 v2 v2 (nI 0) mm mt mv mx mf mn ma me mb mba mbl mby mw
    else
      if mcd = (nI 6) then
        bd12 (p_X6_readTexts v2 v3 mm mt mv mx mf mn ma me mb mba mbl mby mw) <| fun a_40 mm_41 mt_42 mv_43 mx_44 mn_45 ma_46 mb_47 mba_48 mbl_49 mby_50 mw_51 =>
        gd (isB a_40) <|
        some (a_40, mm_41, mt_42, mv_43, mx_44, mn_45, ma_46, me, mb_47, mba_48, mbl_49, mby_50, mw_51)
      else
        if mcd = (nI 8) then
          bd11 (p_X6_readPlaces v2 mm mt mv mx mf mn ma me mb mba mdi mbl mby) <| fun a_54 mm_55 mt_56 mv_57 mx_58 mn_59 ma_60 mb_61 mba_62 mbl_63 mby_64 =>
          gd (isB a_54) <|
          some (a_54, mm_55, mt_56, mv_57, mx_58, mn_59, ma_60, me, mb_61, mba_62, mbl_63, mby_64, mw)
        else
          bd4 (p_X6_readLength (nI 12000) mf ma me mb mba) <| fun a_67 ma_68 mb_69 mba_70 =>
          if a_67 < (nI 0) then
            some ((nI 0), mm, mt, mv, mx, mn, ma_68, me, mb_69, mba_70, mbl, mby, mw)
          else
            bd7 (p_X6_readRuns v2 (nI 1) mf mn ma_68 (ma_68 + a_67) mb_69 mba_70 mbl mby) <| fun a_72 mn_73 ma_74 mb_75 mba_76 mbl_77 mby_78 =>
            if a_72 = (nI 0) then
              some ((nI 0), mm, mt, mv, mx, mn_73, ma_74, (ma_68 + a_67), mb_75, mba_76, mbl_77, mby_78, mw)
            else
              bd3 (p_X6_isOver (ma_68 + a_67) ma_74 mb_75 mba_76) <| fun a_80 mb_81 mba_82 =>
              if a_80 = (nI 0) then
                some ((nI 0), mm, mt, mv, mx, mn_73, ma_74, (ma_68 + a_67), mb_81, mba_82, mbl_77, mby_78, mw)
              else
                itr5 (p_X6_readValues_L258 v2 mn_73 ma_74 v3 mb_81 mba_82 mbl_77 mby_78 mw ) fu (nI 0) mm mt mv mx
def p_X6_readValues (v1 : Int32) (v2 : Int32) (mm : Nat → Int32) (mt : Nat → Int32) (mv : Nat → Int64) (mx : Nat → Int32) (mf : Nat → Int32) (mn : Nat → Int64) (ma : Int32) (me : Int32) (mb : Int32) (mba : Int32) (mdi : Int32) (mbl : Int32) (mby : Int32) (mw : Nat → Int32) (mcd : Int32) : Option (Int32 × (Nat → Int32) × (Nat → Int32) × (Nat → Int64) × (Nat → Int32) × (Nat → Int64) × Int32 × Int32 × Int32 × Int32 × Int32 × Int32 × (Nat → Int32)) :=
  gd (inb (nI 6) 7) <|
  if mcd = (nI 0) then
    if v1 = (nI 3) then
      itr10 (p_X6_readValues_L33 v2 mf mn me mw ) fu (nI 0) (up mm (ix (nI 6)) (nI 0)) mt mv mx ma mb mba (nI 0) mby
    else
      p_X6_readValues_J71 v1 v2 me (up mm (ix (nI 6)) (nI 0)) mt mv mx mf mn ma me mb mba mdi mbl mby mw mcd
  else
    p_X6_readValues_J71 v1 v2 me (up mm (ix (nI 6)) (nI 0)) mt mv mx mf mn ma me mb mba mdi mbl mby mw mcd
def p_X6_readPage_L62 (v1 : Int32) (mf : Nat → Int32) (mn : Nat → Int64) (me : Int32) (mpg : Int32) (mdi : Int32) (mbl : Int32) (mby : Int32) (mw : Nat → Int32) (mz : Int32) (mso : Int32) (mbo : Int32) (mco : Int32) (mcd : Int32) (ml : Nat → Int32) (k88 : (Nat → Int32) → (Nat → Int32) → (Nat → Int64) → (Nat → Int32) → Int32 → Int32 → Int32 → Option (Int32 × (Nat → Int32) × (Nat → Int32) × (Nat → Int64) × (Nat → Int32) × (Nat → Int64) × Int32 × Int32 × Int32 × Int32 × Int32 × Int32 × Int32 × Int32 × (Nat → Int32) × Int32 × Int32 × Int32 × Int32 × Int32 × (Nat → Int32))) (k62 : Int32 → (Nat → Int32) → (Nat → Int32) → (Nat → Int64) → (Nat → Int32) → Int32 → Int32 → Int32 → Option (Int32 × (Nat → Int32) × (Nat → Int32) × (Nat → Int64) × (Nat → Int32) × (Nat → Int64) × Int32 × Int32 × Int32 × Int32 × Int32 × Int32 × Int32 × Int32 × (Nat → Int32) × Int32 × Int32 × Int32 × Int32 × Int32 × (Nat → Int32))) (v4 : Int32) (mm : Nat → Int32) (mt : Nat → Int32) (mv : Nat → Int64) (mx : Nat → Int32) (ma : Int32) (mb : Int32) (mba : Int32) : Option (Int32 × (Nat → Int32) × (Nat → Int32) × (Nat → Int64) × (Nat → Int32) × (Nat → Int64) × Int32 × Int32 × Int32 × Int32 × Int32 × Int32 × Int32 × Int32 × (Nat → Int32) × Int32 × Int32 × Int32 × Int32 × Int32 × (Nat → Int32)) :=
  if v4 < mco then
    bd8 (p_X6_readPlain (nI 5) v1 mm mt mv mx mf ma me mb mba) <| fun a_17 mm_18 mt_19 mv_20 mx_21 ma_22 mb_23 mba_24 =>
    if a_17 = (nI 0) then
      some ((nI 0), mm_18, mt_19, mv_20, mx_21, mn, ma_22, me, mb_23, mba_24, mpg, mdi, mbl, mby, mw, mz, mso, mbo, mco, mcd, ml)
    else
      k62 (v4 + (nI 1)) mm_18 mt_19 mv_20 mx_21 ma_22 mb_23 mba_24
  else
    k88 mm mt mv mx ma mb mba
def p_X6_readPage_L127 (mco : Int32) (k150 : (Nat → Int32) → Option (Int32 × (Nat → Int32) × (Nat → Int32) × (Nat → Int64) × (Nat → Int32) × (Nat → Int64) × Int32 × Int32 × Int32 × Int32 × Int32 × Int32 × Int32 × Int32 × (Nat → Int32) × Int32 × Int32 × Int32 × Int32 × Int32 × (Nat → Int32))) (k127 : Int32 → (Nat → Int32) → Option (Int32 × (Nat → Int32) × (Nat → Int32) × (Nat → Int64) × (Nat → Int32) × (Nat → Int64) × Int32 × Int32 × Int32 × Int32 × Int32 × Int32 × Int32 × Int32 × (Nat → Int32) × Int32 × Int32 × Int32 × Int32 × Int32 × (Nat → Int32))) (v5 : Int32) (ml : Nat → Int32) : Option (Int32 × (Nat → Int32) × (Nat → Int32) × (Nat → Int64) × (Nat → Int32) × (Nat → Int64) × Int32 × Int32 × Int32 × Int32 × Int32 × Int32 × Int32 × Int32 × (Nat → Int32) × Int32 × Int32 × Int32 × Int32 × Int32 × (Nat → Int32)) :=
  if v5 < mco then
    gd (inb v5 200) <|
    k127 (v5 + (nI 1)) (up ml (ix v5) (nI 1))
  else
    k150 ml
def p_X6_readPage_L302 (mn : Nat → Int64) (ma : Int32) (me : Int32) (mb : Int32) (mba : Int32) (mpg : Int32) (mdi : Int32) (mbl : Int32) (mby : Int32) (mw : Nat → Int32) (mz : Int32) (mso : Int32) (mbo : Int32) (mco : Int32) (mcd : Int32) (ml : Nat → Int32) (k302 : Int32 → Int32 → (Nat → Int32) → (Nat → Int32) → (Nat → Int64) → (Nat → Int32) → Option (Int32 × (Nat → Int32) × (Nat → Int32) × (Nat → Int64) × (Nat → Int32) × (Nat → Int64) × Int32 × Int32 × Int32 × Int32 × Int32 × Int32 × Int32 × Int32 × (Nat → Int32) × Int32 × Int32 × Int32 × Int32 × Int32 × (Nat → Int32))) (v5 : Int32) (v6 : Int32) (mm : Nat → Int32) (mt : Nat → Int32) (mv : Nat → Int64) (mx : Nat → Int32) : Option (Int32 × (Nat → Int32) × (Nat → Int32) × (Nat → Int64) × (Nat → Int32) × (Nat → Int64) × Int32 × Int32 × Int32 × Int32 × Int32 × Int32 × Int32 × Int32 × (Nat → Int32) × Int32 × Int32 × Int32 × Int32 × Int32 × (Nat → Int32)) :=
  if v6 < mco then
    gd (inb v6 200) <|
    if (ml (ix v6)) = (nI 0) then
      bd5 (p_X6_adds (nI 4) (nI 0) (lN 0) mm mt mv mx) <| fun a_58 mm_59 mt_60 mv_61 mx_62 =>
      k302 v5 (v6 + (nI 1)) mm_59 mt_60 mv_61 mx_62
    else
      bd5 (p_X6_adds (nI 4) (nI 1) (lN 0) mm mt mv mx) <| fun a_64 mm_65 mt_66 mv_67 mx_68 =>
      bd3 (p_X6_copies ((nI 800) + a_64) ((nI 1200) + v5) mt_66 mv_67 mx_68) <| fun mt_70 mv_71 mx_72 =>
      k302 (v5 + (nI 1)) (v6 + (nI 1)) mm_65 mt_70 mv_71 mx_72
  else
    some ((nI 1), mm, mt, mv, mx, mn, ma, me, mb, mba, (mpg + (nI 1)), mdi, mbl, mby, mw, mz, mso, mbo, mco, mcd, ml)
def p_X6_readPage_J276 (v1 : Int32) (v3 : Int32) (v4 : Int32) (mm : Nat → Int32) (mt : Nat → Int32) (mv : Nat → Int64) (mx : Nat → Int32) (mf : Nat → Int32) (mn : Nat → Int64) (ma : Int32) (me : Int32) (mb : Int32) (mba : Int32) (mpg : Int32) (mdi : Int32) (mbl : Int32) (mby : Int32) (mw : Nat → Int32) (mz : Int32) (mso : Int32) (mbo : Int32) (mco : Int32) (mcd : Int32) (ml : Nat → Int32) : Option (Int32 × (Nat → Int32) × (Nat → Int32) × (Nat → Int64) × (Nat → Int32) × (Nat → Int64) × Int32 × Int32 × Int32 × Int32 × Int32 × Int32 × Int32 × Int32 × (Nat → Int32) × Int32 × Int32 × Int32 × Int32 × Int32 × (Nat → Int32)) :=
  bd13 (p_X6_readValues v1 v4 mm mt mv mx mf mn ma me mb mba mdi mbl mby mw mcd) <| fun a_39 mm_40 mt_41 mv_42 mx_43 mn_44 ma_45 me_46 mb_47 mba_48 mbl_49 mby_50 mw_51 =>
  if a_39 = (nI 0) then
    some ((nI 0), mm_40, mt_41, mv_42, mx_43, mn_44, ma_45, me_46, mb_47, mba_48, mpg, mdi, mbl_49, mby_50, mw_51, mz, mso, mbo, mco, mcd, ml)
  else
    bd3 (p_X6_isOver v3 ma_45 mb_47 mba_48) <| fun a_53 mb_54 mba_55 =>
    if a_53 = (nI 0) then
      some ((nI 0), mm_40, mt_41, mv_42, mx_43, mn_44, ma_45, me_46, mb_54, mba_55, mpg, mdi, mbl_49, mby_50, mw_51, mz, mso, mbo, mco, mcd, ml)
    else
      itr6 (p_X6_readPage_L302 mn_44 ma_45 me_46 mb_54 mba_55 mpg mdi mbl_49 mby_50 mw_51 mz mso mbo mco mcd ml ) fu (nI 0) (nI 0) mm_40 mt_41 mv_42 mx_43
def p_X6_readPage_J249 (v4 : Int32) (v6 : Int32) (s1 : Int32) (s2 : Int32) (ml : Nat → Int32) (k217 : Int32 → Int32 → (Nat → Int32) → Option (Int32 × (Nat → Int32) × (Nat → Int32) × (Nat → Int64) × (Nat → Int32) × (Nat → Int64) × Int32 × Int32 × Int32 × Int32 × Int32 × Int32 × Int32 × Int32 × (Nat → Int32) × Int32 × Int32 × Int32 × Int32 × Int32 × (Nat → Int32))) : Option (Int32 × (Nat → Int32) × (Nat → Int32) × (Nat → Int64) × (Nat → Int32) × (Nat → Int64) × Int32 × Int32 × Int32 × Int32 × Int32 × Int32 × Int32 × Int32 × (Nat → Int32) × Int32 × Int32 × Int32 × Int32 × Int32 × (Nat → Int32)) :=
  gd (inb s1 200) <|
  gd (isB s2) <|
  gd (inb v6 200) <|
  if ((up ml (ix s1) s2) (ix v6)) = (nI 0) then
    k217 (v4 + (nI 0)) (v6 + (nI 1)) (up ml (ix s1) s2)
  else
    k217 (v4 + (nI 1)) (v6 + (nI 1)) (up ml (ix s1) s2)
def p_X6_readPage_L217 (mn : Nat → Int64) (mco : Int32) (k276 : Int32 → (Nat → Int32) → Option (Int32 × (Nat → Int32) × (Nat → Int32) × (Nat → Int64) × (Nat → Int32) × (Nat → Int64) × Int32 × Int32 × Int32 × Int32 × Int32 × Int32 × Int32 × Int32 × (Nat → Int32) × Int32 × Int32 × Int32 × Int32 × Int32 × (Nat → Int32))) (k217 : Int32 → Int32 → (Nat → Int32) → Option (Int32 × (Nat → Int32) × (Nat → Int32) × (Nat → Int64) × (Nat → Int32) × (Nat → Int64) × Int32 × Int32 × Int32 × Int32 × Int32 × Int32 × Int32 × Int32 × (Nat → Int32) × Int32 × Int32 × Int32 × Int32 × Int32 × (Nat → Int32))) (v4 : Int32) (v6 : Int32) (ml : Nat → Int32) : Option (Int32 × (Nat → Int32) × (Nat → Int32) × (Nat → Int64) × (Nat → Int32) × (Nat → Int64) × Int32 × Int32 × Int32 × Int32 × Int32 × Int32 × Int32 × Int32 × (Nat → Int32) × Int32 × Int32 × Int32 × Int32 × Int32 × (Nat → Int32)) :=
  if v6 < mco then
    gd (inb v6 500) <|
    if (mn (ix v6)) = (lN 1) then
      p_X6_readPage_J249 v4 v6 v6 (nI 1) ml k217
    else
      p_X6_readPage_J249 v4 v6 v6 (nI 0) ml k217
  else
    k276 v4 ml
def p_X6_readPage (v1 : Int32) (v2 : Int32) (mm : Nat → Int32) (mt : Nat → Int32) (mv : Nat → Int64) (mx : Nat → Int32) (mf : Nat → Int32) (ms : Int32) (mn : Nat → Int64) (ma : Int32) (me : Int32) (mb : Int32) (mba : Int32) (mpg : Int32) (mdi : Int32) (mbl : Int32) (mby : Int32) (mw : Nat → Int32) (mz : Int32) (mso : Int32) (mbo : Int32) (mco : Int32) (mcd : Int32) (ml : Nat → Int32) : Option (Int32 × (Nat → Int32) × (Nat → Int32) × (Nat → Int64) × (Nat → Int32) × (Nat → Int64) × Int32 × Int32 × Int32 × Int32 × Int32 × Int32 × Int32 × Int32 × (Nat → Int32) × Int32 × Int32 × Int32 × Int32 × Int32 × (Nat → Int32)) :=
  bd10 (p_X6_readHead v1 mm mf ms ma me mb mba mdi mz mso mbo mco mcd) <| fun a_1 ma_2 me_3 mb_4 mba_5 mz_6 mso_7 mbo_8 mco_9 mcd_10 =>
  if a_1 = (nI 0) then
    some ((nI 0), mm, mt, mv, mx, mn, ma_2, me_3, mb_4, mba_5, mpg, mdi, mbl, mby, mw, mz_6, mso_7, mbo_8, mco_9, mcd_10, ml)
  else
    if ms < (ma_2 + mbo_8) then
      bd3 (p_X6_fails (nI 1) ms mb_4 mba_5) <| fun a_12 mb_13 mba_14 =>
      gd (isB a_12) <|
      some (a_12, mm, mt, mv, mx, mn, ma_2, me_3, mb_13, mba_14, mpg, mdi, mbl, mby, mw, mz_6, mso_7, mbo_8, mco_9, mcd_10, ml)
    else
      if mso_7 = (nI 2) then
        itr8 (p_X6_readPage_L62 v1 mf mn (ma_2 + mbo_8) mpg mdi mbl mby mw mz_6 mso_7 mbo_8 mco_9 mcd_10 ml (fun mm_26 mt_27 mv_28 mx_29 ma_30 mb_31 mba_32 =>
            bd3 (p_X6_isOver (ma_2 + mbo_8) ma_30 mb_31 mba_32) <| fun a_33 mb_34 mba_35 =>
            if a_33 = (nI 0) then
              some ((nI 0), mm_26, mt_27, mv_28, mx_29, mn, ma_30, (ma_2 + mbo_8), mb_34, mba_35, mpg, mco_9, mbl, mby, mw, mz_6, mso_7, mbo_8, mco_9, mcd_10, ml)
            else
              some ((nI 1), mm_26, mt_27, mv_28, mx_29, mn, ma_30, (ma_2 + mbo_8), mb_34, mba_35, (mpg + (nI 1)), mco_9, mbl, mby, mw, mz_6, mso_7, mbo_8, mco_9, mcd_10, ml))) fu (nI 0) mm mt mv mx ma_2 mb_4 mba_5
      else
        itr2 (p_X6_readPage_L127 mco_9 (fun ml_38 =>
            if v2 = (nI 0) then
              p_X6_readPage_J276 v1 (ma_2 + mbo_8) mco_9 mm mt mv mx mf mn ma_2 (ma_2 + mbo_8) mb_4 mba_5 mpg mdi mbl mby mw mz_6 mso_7 mbo_8 mco_9 mcd_10 ml_38
            else
              bd4 (p_X6_readLength (nI 12000) mf ma_2 (ma_2 + mbo_8) mb_4 mba_5) <| fun a_74 ma_75 mb_76 mba_77 =>
              if a_74 < (nI 0) then
                some ((nI 0), mm, mt, mv, mx, mn, ma_75, (ma_2 + mbo_8), mb_76, mba_77, mpg, mdi, mbl, mby, mw, mz_6, mso_7, mbo_8, mco_9, mcd_10, ml_38)
              else
                bd7 (p_X6_readRuns mco_9 (nI 1) mf mn ma_75 (ma_75 + a_74) mb_76 mba_77 mbl mby) <| fun a_79 mn_80 ma_81 mb_82 mba_83 mbl_84 mby_85 =>
                if a_79 = (nI 0) then
                  some ((nI 0), mm, mt, mv, mx, mn_80, ma_81, (ma_75 + a_74), mb_82, mba_83, mpg, mdi, mbl_84, mby_85, mw, mz_6, mso_7, mbo_8, mco_9, mcd_10, ml_38)
                else
                  bd3 (p_X6_isOver (ma_75 + a_74) ma_81 mb_82 mba_83) <| fun a_87 mb_88 mba_89 =>
                  if a_87 = (nI 0) then
                    some ((nI 0), mm, mt, mv, mx, mn_80, ma_81, (ma_75 + a_74), mb_88, mba_89, mpg, mdi, mbl_84, mby_85, mw, mz_6, mso_7, mbo_8, mco_9, mcd_10, ml_38)
                  else
                    itr3 (p_X6_readPage_L217 mn_80 mco_9 (fun v4_95 ml_96 =>
                        p_X6_readPage_J276 v1 (ma_2 + mbo_8) v4_95 mm mt mv mx mf mn_80 ma_81 (ma_2 + mbo_8) mb_88 mba_89 mpg mdi mbl_84 mby_85 mw mz_6 mso_7 mbo_8 mco_9 mcd_10 ml_96)) fu (nI 0) (nI 0) ml_38)) fu (nI 0) ml
def p_X6_read_L53 (v1 : Int32) (mk : Nat → Int32) (mo : Nat → Int32) (mf : Nat → Int32) (ms : Int32) (mr : Int32) (k91 : (Nat → Int32) → (Nat → Int32) → (Nat → Int64) → (Nat → Int32) → (Nat → Int64) → Int32 → Int32 → Int32 → Int32 → Int32 → Int32 → Int32 → Int32 → (Nat → Int32) → Int32 → Int32 → Int32 → Int32 → Int32 → (Nat → Int32) → Option (Int32 × (Nat → Int32) × (Nat → Int32) × (Nat → Int64) × (Nat → Int32) × (Nat → Int64) × Int32 × Int32 × Int32 × Int32 × Int32 × Int32 × Int32 × Int32 × (Nat → Int32) × Int32 × Int32 × Int32 × Int32 × Int32 × (Nat → Int32) × Int32)) (k53 : (Nat → Int32) → (Nat → Int32) → (Nat → Int64) → (Nat → Int32) → (Nat → Int64) → Int32 → Int32 → Int32 → Int32 → Int32 → Int32 → Int32 → Int32 → (Nat → Int32) → Int32 → Int32 → Int32 → Int32 → Int32 → (Nat → Int32) → Option (Int32 × (Nat → Int32) × (Nat → Int32) × (Nat → Int64) × (Nat → Int32) × (Nat → Int64) × Int32 × Int32 × Int32 × Int32 × Int32 × Int32 × Int32 × Int32 × (Nat → Int32) × Int32 × Int32 × Int32 × Int32 × Int32 × (Nat → Int32) × Int32)) (mm : Nat → Int32) (mt : Nat → Int32) (mv : Nat → Int64) (mx : Nat → Int32) (mn : Nat → Int64) (ma : Int32) (me : Int32) (mb : Int32) (mba : Int32) (mpg : Int32) (mdi : Int32) (mbl : Int32) (mby : Int32) (mw : Nat → Int32) (mz : Int32) (mso : Int32) (mbo : Int32) (mco : Int32) (mcd : Int32) (ml : Nat → Int32) : Option (Int32 × (Nat → Int32) × (Nat → Int32) × (Nat → Int64) × (Nat → Int32) × (Nat → Int64) × Int32 × Int32 × Int32 × Int32 × Int32 × Int32 × Int32 × Int32 × (Nat → Int32) × Int32 × Int32 × Int32 × Int32 × Int32 × (Nat → Int32) × Int32) :=
  if ma < ms then
    gd (inb v1 7) <|
    gd (inb v1 7) <|
    bd21 (p_X6_readPage (mk (ix v1)) (mo (ix v1)) mm mt mv mx mf ms mn ma me mb mba mpg mdi mbl mby mw mz mso mbo mco mcd ml) <| fun a_7 mm_8 mt_9 mv_10 mx_11 mn_12 ma_13 me_14 mb_15 mba_16 mpg_17 mdi_18 mbl_19 mby_20 mw_21 mz_22 mso_23 mbo_24 mco_25 mcd_26 ml_27 =>
    if a_7 = (nI 0) then
      some (((-10 : Int32) - mb_15), mm_8, mt_9, mv_10, mx_11, mn_12, ma_13, me_14, mb_15, mba_16, mpg_17, mdi_18, mbl_19, mby_20, mw_21, mz_22, mso_23, mbo_24, mco_25, mcd_26, ml_27, mr)
    else
      k53 mm_8 mt_9 mv_10 mx_11 mn_12 ma_13 me_14 mb_15 mba_16 mpg_17 mdi_18 mbl_19 mby_20 mw_21 mz_22 mso_23 mbo_24 mco_25 mcd_26 ml_27
  else
    k91 mm mt mv mx mn ma me mb mba mpg mdi mbl mby mw mz mso mbo mco mcd ml
def p_X6_read_L105 (v1 : Int32) (mm : Nat → Int32) (mn : Nat → Int64) (ma : Int32) (me : Int32) (mb : Int32) (mba : Int32) (mpg : Int32) (mdi : Int32) (mbl : Int32) (mby : Int32) (mw : Nat → Int32) (mz : Int32) (mso : Int32) (mbo : Int32) (mco : Int32) (mcd : Int32) (ml : Nat → Int32) (mr : Int32) (k105 : Int32 → (Nat → Int32) → (Nat → Int64) → (Nat → Int32) → Option (Int32 × (Nat → Int32) × (Nat → Int32) × (Nat → Int64) × (Nat → Int32) × (Nat → Int64) × Int32 × Int32 × Int32 × Int32 × Int32 × Int32 × Int32 × Int32 × (Nat → Int32) × Int32 × Int32 × Int32 × Int32 × Int32 × (Nat → Int32) × Int32)) (v2 : Int32) (mt : Nat → Int32) (mv : Nat → Int64) (mx : Nat → Int32) : Option (Int32 × (Nat → Int32) × (Nat → Int32) × (Nat → Int64) × (Nat → Int32) × (Nat → Int64) × Int32 × Int32 × Int32 × Int32 × Int32 × Int32 × Int32 × Int32 × (Nat → Int32) × Int32 × Int32 × Int32 × Int32 × Int32 × (Nat → Int32) × Int32) :=
  gd (inb (nI 4) 7) <|
  if v2 < (mm (ix (nI 4))) then
    bd3 (p_X6_copies (((nI 200) * v1) + v2) ((nI 800) + v2) mt mv mx) <| fun mt_52 mv_53 mx_54 =>
    k105 (v2 + (nI 1)) mt_52 mv_53 mx_54
  else
    gd (inb v1 7) <|
    some ((mm (ix v1)), mm, mt, mv, mx, mn, ma, me, mb, mba, mpg, mdi, mbl, mby, mw, mz, mso, mbo, mco, mcd, ml, mr)
def p_X6_read (v1 : Int32) (mk : Nat → Int32) (mo : Nat → Int32) (mm : Nat → Int32) (mt : Nat → Int32) (mv : Nat → Int64) (mx : Nat → Int32) (mf : Nat → Int32) (ms : Int32) (mn : Nat → Int64) (ma : Int32) (me : Int32) (mb : Int32) (mba : Int32) (mpg : Int32) (mdi : Int32) (mbl : Int32) (mby : Int32) (mw : Nat → Int32) (mz : Int32) (mso : Int32) (mbo : Int32) (mco : Int32) (mcd : Int32) (ml : Nat → Int32) (mr : Int32) : Option (Int32 × (Nat → Int32) × (Nat → Int32) × (Nat → Int64) × (Nat → Int32) × (Nat → Int64) × Int32 × Int32 × Int32 × Int32 × Int32 × Int32 × Int32 × Int32 × (Nat → Int32) × Int32 × Int32 × Int32 × Int32 × Int32 × (Nat → Int32) × Int32) :=
  bd1 (p_X6_isColumn v1) <| fun a_1 =>
  if a_1 = (nI 0) then
    some ((-1 : Int32), mm, mt, mv, mx, mn, ma, me, mb, mba, mpg, mdi, mbl, mby, mw, mz, mso, mbo, mco, mcd, ml, mr)
  else
    gd (inb (nI 4) 7) <|
    gd (inb (nI 5) 7) <|
    itr20 (p_X6_read_L53 v1 mk mo mf ms (nI 1) (fun mm_29 mt_30 mv_31 mx_32 mn_33 ma_34 me_35 mb_36 mba_37 mpg_38 mdi_39 mbl_40 mby_41 mw_42 mz_43 mso_44 mbo_45 mco_46 mcd_47 ml_48 =>
        gd (inb (nI 4) 7) <|
        gd (inb v1 7) <|
        itr4 (p_X6_read_L105 v1 (up mm_29 (ix v1) (mm_29 (ix (nI 4)))) mn_33 ma_34 me_35 mb_36 mba_37 mpg_38 mdi_39 mbl_40 mby_41 mw_42 mz_43 mso_44 mbo_45 mco_46 mcd_47 ml_48 (nI 1) ) fu (nI 0) mt_30 mv_31 mx_32)) fu (up (up mm (ix (nI 4)) (nI 0)) (ix (nI 5)) (nI 0)) mt mv mx mn (nI 0) me (nI 0) (nI 0) (nI 0) (-1 : Int32) mbl mby mw mz mso mbo mco mcd ml
def p_X6_fault (v1 : Int32) (mb : Int32) (mba : Int32) (mpg : Int32) (mdi : Int32) (mr : Int32) : Option (Int32) :=
  bd1 (p_X6_in (i2l v1) (lN 0) (lN 3)) <| fun a_1 =>
  if a_1 = (nI 0) then
    some ((-1 : Int32))
  else
    if mr = (nI 0) then
      some ((nI 0))
    else
      if v1 = (nI 0) then
        some (mb)
      else
        if v1 = (nI 1) then
          some (mba)
        else
          if v1 = (nI 2) then
            some (mpg)
          else
            if mdi < (nI 0) then
              some ((nI 0))
            else
              some (mdi)
def p_X6_size (ms : Int32) : Option (Int32) :=
  some (ms)
def p_X6_byteAt (v1 : Int32) (mf : Nat → Int32) (ms : Int32) : Option (Int32) :=
  bd1 (p_X6_in (i2l v1) (lN 0) (i2l (ms - (nI 1)))) <| fun a_1 =>
  if a_1 = (nI 0) then
    some ((-1 : Int32))
  else
    gd (inb v1 12000) <|
    some (((mf (ix v1)) &&& (nI 255)))
def p_X6_poke (v1 : Int32) (v2 : Int32) (mf : Nat → Int32) (ms : Int32) : Option (Int32 × (Nat → Int32)) :=
  bd1 (p_X6_in (i2l v1) (lN 0) (i2l (ms - (nI 1)))) <| fun a_1 =>
  if a_1 = (nI 0) then
    some ((-1 : Int32), mf)
  else
    gd (inb v1 12000) <|
    gd (inb v1 12000) <|
    gd (inb v1 12000) <|
    some ((((up mf (ix v1) (b8 ((mf (ix v1)) ^^^ v2))) (ix v1)) &&& (nI 255)), (up mf (ix v1) (b8 ((mf (ix v1)) ^^^ v2))))
def p_X6_cut (v1 : Int32) (ms : Int32) : Option (Int32 × Int32) :=
  bd1 (p_X6_in (i2l v1) (lN 0) (i2l ms)) <| fun a_1 =>
  if a_1 = (nI 0) then
    some ((-1 : Int32), ms)
  else
    some ((ms - v1), v1)
def p_X6_put_L32 (v1 : Int64) (v3 : Int32) (k32 : Int32 → (Nat → Int32) → Int32 → Option (Int32 × (Nat → Int32) × Int32)) (v4 : Int32) (mf : Nat → Int32) (ms : Int32) : Option (Int32 × (Nat → Int32) × Int32) :=
  if v4 < v3 then
    gd (inb ms 12000) <|
    k32 (v4 + (nI 1)) (up mf (ix ms) (b8 (l2i (lshr v1 ((nI 8) * v4))))) (ms + (nI 1))
  else
    some (ms, mf, ms)
def p_X6_put (v1 : Int64) (v3 : Int32) (mf : Nat → Int32) (ms : Int32) : Option (Int32 × (Nat → Int32) × Int32) :=
  bd1 (p_X6_in (i2l v3) (lN 1) (lN 8)) <| fun a_1 =>
  if a_1 = (nI 0) then
    some ((-1 : Int32), mf, ms)
  else
    if (nI 12000) < (ms + v3) then
      some ((-3 : Int32), mf, ms)
    else
      itr3 (p_X6_put_L32 v1 v3 ) fu (nI 0) mf ms
