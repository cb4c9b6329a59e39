def p_X0_begin (v0 : Nat) (v1 : Int32) (v2 : Int32) (xk : Nat → Int32) (xo : Nat → Int32) (xc : Nat → Int32) : Option ((Nat → Int32) × (Nat → Int32) × (Nat → Int32)) :=
  gd (isB v2) <|
  some ((up xk v0 v1), (up xo v0 v2), (up xc v0 (nI 0)))
def p_X0_holds (v0 : Nat) (v1 : Int32) (xc : Nat → Int32) : Option (Int32) :=
  if v1 < (nI 0) then
    some ((nI 0))
  else
    if v1 < (xc v0) then
      if v1 < (nI 200) then
        some ((nI 1))
      else
        some ((nI 0))
    else
      some ((nI 0))
def p_X0_isThere (v0 : Nat) (v1 : Int32) (xt : Nat → Nat → Int32) : Option (Int32) :=
  if v1 < (nI 0) then
    some ((nI 0))
  else
    if v1 < (nI 200) then
      gd (inb v1 200) <|
      if (xt v0 (ix v1)) = (nI 0) then
        some ((nI 0))
      else
        some ((nI 1))
    else
      some ((nI 0))
def p_X0_numberAt (v0 : Nat) (v1 : Int32) (xn : Nat → Nat → Int64) : Option (Int64) :=
  if v1 < (nI 0) then
    some ((lN 0))
  else
    if v1 < (nI 200) then
      gd (inb v1 200) <|
      some ((xn v0 (ix v1)))
    else
      some ((lN 0))
def p_X0_letterAt (v0 : Nat) (v1 : Int32) (v2 : Int32) (xl : Nat → Nat → Int32) : Option (Int32) :=
  if v1 < (nI 0) then
    some ((nI 0))
  else
    if v1 < (nI 200) then
      if v2 < (nI 0) then
        some ((nI 0))
      else
        if v2 < (nI 40) then
          gd (inb ((v1 * (nI 40)) + v2) 8000) <|
          some (((xl v0 (ix ((v1 * (nI 40)) + v2))) &&& (nI 255)))
        else
          some ((nI 0))
    else
      some ((nI 0))
def p_X0_pushNumber_J68 (v0 : Nat) (s0 : Nat) (s1 : Int32) (s2 : Int32) (xc : Nat → Int32) (xt : Nat → Nat → Int32) (xn : Nat → Nat → Int64) : Option ((Nat → Int32) × (Nat → Nat → Int32) × (Nat → Nat → Int64)) :=
  gd (inb s1 200) <|
  some ((up xc v0 ((xc v0) + (nI 1))), xt, (up xn s0 (up (xn s0) (ix s1) (i2l s2))))
def p_X0_pushNumber (v0 : Nat) (v1 : Int64) (xk : Nat → Int32) (xc : Nat → Int32) (xt : Nat → Nat → Int32) (xn : Nat → Nat → Int64) : Option ((Nat → Int32) × (Nat → Nat → Int32) × (Nat → Nat → Int64)) :=
  if (xc v0) < (nI 0) then
    some (xc, xt, xn)
  else
    if (xc v0) < (nI 200) then
      gd (inb (xc v0) 200) <|
      if (xk v0) = (nI 0) then
        gd (inb (xc v0) 200) <|
        some ((up xc v0 ((xc v0) + (nI 1))), (up xt v0 (up (xt v0) (ix (xc v0)) (nI 1))), (up xn v0 (up (xn v0) (ix (xc v0)) (i2l (l2i v1)))))
      else
        if (xk v0) = (nI 3) then
          if v1 = (lN 0) then
            p_X0_pushNumber_J68 v0 v0 (xc v0) (nI 0) xc (up xt v0 (up (xt v0) (ix (xc v0)) (nI 1))) xn
          else
            p_X0_pushNumber_J68 v0 v0 (xc v0) (nI 1) xc (up xt v0 (up (xt v0) (ix (xc v0)) (nI 1))) xn
        else
          gd (inb (xc v0) 200) <|
          some ((up xc v0 ((xc v0) + (nI 1))), (up xt v0 (up (xt v0) (ix (xc v0)) (nI 1))), (up xn v0 (up (xn v0) (ix (xc v0)) v1)))
    else
      some (xc, xt, xn)
def p_X3_get (v0 : Nat) (v1 : Int32) (rc : Nat → Int32) (rb : Nat → Nat → Int32) : Option (Int32) :=
  if v1 < (nI 0) then
    some ((nI 0))
  else
    if v1 < (rc v0) then
      if v1 < (nI (rlen v0)) then
        gd (inb v1 (rlen v0)) <|
        some (((rb v0 (ix v1)) &&& (nI 255)))
      else
        some ((nI 0))
    else
      some ((nI 0))
def p_X0_pushText_L31 (v0 : Nat) (v1 : Nat) (v2 : Int32) (v3 : Int32) (xc : Nat → Int32) (rc : Nat → Int32) (rb : Nat → Nat → Int32) (k67 : (Nat → Nat → Int32) → Option ((Nat → Int32) × (Nat → Nat → Int32) × (Nat → Nat → Int64) × (Nat → Nat → Int32))) (k31 : Int32 → (Nat → Nat → Int32) → Option ((Nat → Int32) × (Nat → Nat → Int32) × (Nat → Nat → Int64) × (Nat → Nat → Int32))) (v4 : Int32) (xl : Nat → Nat → Int32) : Option ((Nat → Int32) × (Nat → Nat → Int32) × (Nat → Nat → Int64) × (Nat → Nat → Int32)) :=
  if v4 < v3 then
    bd1 (p_X3_get v1 (v2 + v4) rc rb) <| fun a_1 =>
    gd (inb (((xc v0) * (nI 40)) + v4) 8000) <|
    k31 (v4 + (nI 1)) (up xl v0 (up (xl v0) (ix (((xc v0) * (nI 40)) + v4)) (b8 a_1)))
  else
    k67 xl
def p_X0_pushText (v0 : Nat) (v1 : Nat) (v2 : Int32) (v3 : Int32) (xc : Nat → Int32) (xt : Nat → Nat → Int32) (xn : Nat → Nat → Int64) (xl : Nat → Nat → Int32) (rc : Nat → Int32) (rb : Nat → Nat → Int32) : Option ((Nat → Int32) × (Nat → Nat → Int32) × (Nat → Nat → Int64) × (Nat → Nat → Int32)) :=
  if (xc v0) < (nI 0) then
    some (xc, xt, xn, xl)
  else
    if (xc v0) < (nI 200) then
      if v3 < (nI 0) then
        some (xc, xt, xn, xl)
      else
        if (nI 40) < v3 then
          some (xc, xt, xn, xl)
        else
          itr2 (p_X0_pushText_L31 v0 v1 v2 v3 xc rc rb (fun xl_4 =>
              gd (inb (xc v0) 200) <|
              gd (inb (xc v0) 200) <|
              some ((up xc v0 ((xc v0) + (nI 1))), (up xt v0 (up (xt v0) (ix (xc v0)) (nI 1))), (up xn v0 (up (xn v0) (ix (xc v0)) (i2l v3))), xl_4))) fu (nI 0) xl
    else
      some (xc, xt, xn, xl)
def p_X0_setNone (v0 : Nat) (v1 : Int32) (xt : Nat → Nat → Int32) (xn : Nat → Nat → Int64) : Option ((Nat → Nat → Int32) × (Nat → Nat → Int64)) :=
  if v1 < (nI 0) then
    some (xt, xn)
  else
    if v1 < (nI 200) then
      gd (inb v1 200) <|
      gd (inb v1 200) <|
      some ((up xt v0 (up (xt v0) (ix v1) (nI 0))), (up xn v0 (up (xn v0) (ix v1) (lN 0))))
    else
      some (xt, xn)
def p_X0_pushNone (v0 : Nat) (xc : Nat → Int32) (xt : Nat → Nat → Int32) (xn : Nat → Nat → Int64) : Option ((Nat → Int32) × (Nat → Nat → Int32) × (Nat → Nat → Int64)) :=
  if (xc v0) < (nI 0) then
    some (xc, xt, xn)
  else
    if (xc v0) < (nI 200) then
      bd2 (p_X0_setNone v0 (xc v0) xt xn) <| fun xt_1 xn_2 =>
      some ((up xc v0 ((xc v0) + (nI 1))), xt_1, xn_2)
    else
      some (xc, xt, xn)
def p_X0_setCopy_L58 (v0 : Nat) (v1 : Int32) (v2 : Nat) (v3 : Int32) (xt : Nat → Nat → Int32) (xn : Nat → Nat → Int64) (k58 : Int32 → (Nat → Nat → Int32) → Option ((Nat → Nat → Int32) × (Nat → Nat → Int64) × (Nat → Nat → Int32))) (v4 : Int32) (xl : Nat → Nat → Int32) : Option ((Nat → Nat → Int32) × (Nat → Nat → Int64) × (Nat → Nat → Int32)) :=
  if v4 < (nI 40) then
    gd (inb v1 200) <|
    if (i2l v4) < (xn v0 (ix v1)) then
      gd (inb ((v3 * (nI 40)) + v4) 8000) <|
      gd (inb ((v1 * (nI 40)) + v4) 8000) <|
      k58 (v4 + (nI 1)) (up xl v0 (up (xl v0) (ix ((v1 * (nI 40)) + v4)) (b8 (xl v2 (ix ((v3 * (nI 40)) + v4))))))
    else
      some (xt, xn, xl)
  else
    some (xt, xn, xl)
def p_X0_setCopy (v0 : Nat) (v1 : Int32) (v2 : Nat) (v3 : Int32) (xk : Nat → Int32) (xt : Nat → Nat → Int32) (xn : Nat → Nat → Int64) (xl : Nat → Nat → Int32) : Option ((Nat → Nat → Int32) × (Nat → Nat → Int64) × (Nat → Nat → Int32)) :=
  if v1 < (nI 0) then
    some (xt, xn, xl)
  else
    if v1 < (nI 200) then
      if v3 < (nI 0) then
        some (xt, xn, xl)
      else
        if v3 < (nI 200) then
          gd (inb v3 200) <|
          gd (inb v1 200) <|
          gd (isB (xt v2 (ix v3))) <|
          gd (inb v3 200) <|
          gd (inb v1 200) <|
          if (xk v0) = (nI 2) then
            itr2 (p_X0_setCopy_L58 v0 v1 v2 v3 (up xt v0 (up (xt v0) (ix v1) (xt v2 (ix v3)))) (up xn v0 (up (xn v0) (ix v1) (xn v2 (ix v3)))) ) fu (nI 0) xl
          else
            some ((up xt v0 (up (xt v0) (ix v1) (xt v2 (ix v3)))), (up xn v0 (up (xn v0) (ix v1) (xn v2 (ix v3)))), xl)
        else
          some (xt, xn, xl)
    else
      some (xt, xn, xl)
def p_X0_pushCopy (v0 : Nat) (v1 : Nat) (v2 : Int32) (xk : Nat → Int32) (xc : Nat → Int32) (xt : Nat → Nat → Int32) (xn : Nat → Nat → Int64) (xl : Nat → Nat → Int32) : Option ((Nat → Int32) × (Nat → Nat → Int32) × (Nat → Nat → Int64) × (Nat → Nat → Int32)) :=
  if (xc v0) < (nI 0) then
    some (xc, xt, xn, xl)
  else
    if (xc v0) < (nI 200) then
      bd3 (p_X0_setCopy v0 (xc v0) v1 v2 xk xt xn xl) <| fun xt_1 xn_2 xl_3 =>
      some ((up xc v0 ((xc v0) + (nI 1))), xt_1, xn_2, xl_3)
    else
      some (xc, xt, xn, xl)
def p_X0_multiply_L13 (v0 : Nat) (v2 : Int32) (v3 : Int32) (xk : Nat → Int32) (k36 : (Nat → Nat → Int32) → (Nat → Nat → Int64) → (Nat → Nat → Int32) → Option ((Nat → Int32) × (Nat → Nat → Int32) × (Nat → Nat → Int64) × (Nat → Nat → Int32))) (k13 : Int32 → (Nat → Nat → Int32) → (Nat → Nat → Int64) → (Nat → Nat → Int32) → Option ((Nat → Int32) × (Nat → Nat → Int32) × (Nat → Nat → Int64) × (Nat → Nat → Int32))) (v4 : Int32) (xt : Nat → Nat → Int32) (xn : Nat → Nat → Int64) (xl : Nat → Nat → Int32) : Option ((Nat → Int32) × (Nat → Nat → Int32) × (Nat → Nat → Int64) × (Nat → Nat → Int32)) :=
  if v4 < (nI 0) then
    k36 xt xn xl
  else
    bd3 (p_X0_setCopy v0 ((v3 * v2) + v4) v0 v3 xk xt xn xl) <| fun xt_1 xn_2 xl_3 =>
    k13 (v4 + (-1 : Int32)) xt_1 xn_2 xl_3
def p_X0_multiply_L4 (v0 : Nat) (v1 : Int32) (v2 : Int32) (xk : Nat → Int32) (xc : Nat → Int32) (k4 : Int32 → (Nat → Nat → Int32) → (Nat → Nat → Int64) → (Nat → Nat → Int32) → Option ((Nat → Int32) × (Nat → Nat → Int32) × (Nat → Nat → Int64) × (Nat → Nat → Int32))) (v3 : Int32) (xt : Nat → Nat → Int32) (xn : Nat → Nat → Int64) (xl : Nat → Nat → Int32) : Option ((Nat → Int32) × (Nat → Nat → Int32) × (Nat → Nat → Int64) × (Nat → Nat → Int32)) :=
  if v3 < (nI 0) then
    some ((up xc v0 (v1 * v2)), xt, xn, xl)
  else
    itr4 (p_X0_multiply_L13 v0 v2 v3 xk (fun xt_5 xn_6 xl_7 =>
        k4 (v3 + (-1 : Int32)) xt_5 xn_6 xl_7)) fu (v2 - (nI 1)) xt xn xl
def p_X0_multiply (v0 : Nat) (v1 : Int32) (v2 : Int32) (xk : Nat → Int32) (xc : Nat → Int32) (xt : Nat → Nat → Int32) (xn : Nat → Nat → Int64) (xl : Nat → Nat → Int32) : Option ((Nat → Int32) × (Nat → Nat → Int32) × (Nat → Nat → Int64) × (Nat → Nat → Int32)) :=
  itr4 (p_X0_multiply_L4 v0 v1 v2 xk xc ) fu (v1 - (nI 1)) xt xn xl
def p_X0_spread_L11 (v0 : Nat) (v1 : Int32) (v2 : Int32) (v3 : Nat) (xk : Nat → Int32) (xc : Nat → Int32) (la : Nat → Nat → Int64) (k11 : Int32 → Int32 → (Nat → Nat → Int32) → (Nat → Nat → Int64) → (Nat → Nat → Int32) → Option ((Nat → Int32) × (Nat → Nat → Int32) × (Nat → Nat → Int64) × (Nat → Nat → Int32))) (v4 : Int32) (v5 : Int32) (xt : Nat → Nat → Int32) (xn : Nat → Nat → Int64) (xl : Nat → Nat → Int32) : Option ((Nat → Int32) × (Nat → Nat → Int32) × (Nat → Nat → Int64) × (Nat → Nat → Int32)) :=
  if v5 < (nI 0) then
    some ((up xc v0 (imin (v1 + v2) (nI 200))), xt, xn, xl)
  else
    if v5 < (nI 200) then
      gd (inb v5 200) <|
      if (la v3 (ix v5)) = (lN 0) then
        bd2 (p_X0_setNone v0 (v1 + v5) xt xn) <| fun xt_2 xn_3 =>
        k11 v4 (v5 + (-1 : Int32)) xt_2 xn_3 xl
      else
        bd3 (p_X0_setCopy v0 (v1 + v5) v0 (v4 + (-1 : Int32)) xk xt xn xl) <| fun xt_5 xn_6 xl_7 =>
        k11 (v4 + (-1 : Int32)) (v5 + (-1 : Int32)) xt_5 xn_6 xl_7
    else
      bd2 (p_X0_setNone v0 (v1 + v5) xt xn) <| fun xt_9 xn_10 =>
      k11 v4 (v5 + (-1 : Int32)) xt_9 xn_10 xl
def p_X0_spread (v0 : Nat) (v1 : Int32) (v2 : Int32) (v3 : Nat) (xk : Nat → Int32) (xc : Nat → Int32) (xt : Nat → Nat → Int32) (xn : Nat → Nat → Int64) (xl : Nat → Nat → Int32) (la : Nat → Nat → Int64) : Option ((Nat → Int32) × (Nat → Nat → Int32) × (Nat → Nat → Int64) × (Nat → Nat → Int32)) :=
  itr5 (p_X0_spread_L11 v0 v1 v2 v3 xk xc la ) fu (xc v0) (v2 - (nI 1)) xt xn xl
def p_X0_become_L14 (v0 : Nat) (v1 : Nat) (xk : Nat → Int32) (xo : Nat → Int32) (k14 : Int32 → (Nat → Int32) → (Nat → Nat → Int32) → (Nat → Nat → Int64) → (Nat → Nat → Int32) → Option ((Nat → Int32) × (Nat → Int32) × (Nat → Int32) × (Nat → Nat → Int32) × (Nat → Nat → Int64) × (Nat → Nat → Int32))) (v2 : Int32) (xc : Nat → Int32) (xt : Nat → Nat → Int32) (xn : Nat → Nat → Int64) (xl : Nat → Nat → Int32) : Option ((Nat → Int32) × (Nat → Int32) × (Nat → Int32) × (Nat → Nat → Int32) × (Nat → Nat → Int64) × (Nat → Nat → Int32)) :=
  if v2 < (xc v1) then
    bd4 (p_X0_pushCopy v0 v1 v2 xk xc xt xn xl) <| fun xc_5 xt_6 xn_7 xl_8 =>
    k14 (v2 + (nI 1)) xc_5 xt_6 xn_7 xl_8
  else
    some (xk, xo, xc, xt, xn, xl)
def p_X0_become (v0 : Nat) (v1 : Nat) (xk : Nat → Int32) (xo : Nat → Int32) (xc : Nat → Int32) (xt : Nat → Nat → Int32) (xn : Nat → Nat → Int64) (xl : Nat → Nat → Int32) : Option ((Nat → Int32) × (Nat → Int32) × (Nat → Int32) × (Nat → Nat → Int32) × (Nat → Nat → Int64) × (Nat → Nat → Int32)) :=
  bd3 (p_X0_begin v0 (xk v1) (xo v1) xk xo xc) <| fun xk_1 xo_2 xc_3 =>
  itr5 (p_X0_become_L14 v0 v1 xk_1 xo_2 ) fu (nI 0) xc_3 xt xn xl
def p_X0_isSame_L49 (v0 : Nat) (v1 : Int32) (v2 : Nat) (v3 : Int32) (v4 : Int64) (xl : Nat → Nat → Int32) (k49 : Int32 → Option (Int32)) (v6 : Int32) : Option (Int32) :=
  if v6 < (nI 40) then
    if (i2l v6) < v4 then
      bd1 (p_X0_letterAt v0 v1 v6 xl) <| fun a_11 =>
      bd1 (p_X0_letterAt v2 v3 v6 xl) <| fun a_13 =>
      if a_11 = a_13 then
        k49 (v6 + (nI 1))
      else
        some ((nI 0))
    else
      some ((nI 1))
  else
    some ((nI 1))
def p_X0_isSame (v0 : Nat) (v1 : Int32) (v2 : Nat) (v3 : Int32) (xk : Nat → Int32) (xt : Nat → Nat → Int32) (xn : Nat → Nat → Int64) (xl : Nat → Nat → Int32) : Option (Int32) :=
  bd1 (p_X0_isThere v0 v1 xt) <| fun a_1 =>
  bd1 (p_X0_isThere v2 v3 xt) <| fun a_3 =>
  if a_1 = a_3 then
    bd1 (p_X0_numberAt v0 v1 xn) <| fun a_5 =>
    bd1 (p_X0_numberAt v2 v3 xn) <| fun a_7 =>
    if a_5 = a_7 then
      if (xk v0) = (nI 2) then
        bd1 (p_X0_numberAt v0 v1 xn) <| fun a_9 =>
        itr1 (p_X0_isSame_L49 v0 v1 v2 v3 a_9 xl ) fu (nI 0)
      else
        some ((nI 1))
    else
      some ((nI 0))
  else
    some ((nI 0))
def p_X0_isLike_L26 (v0 : Nat) (v1 : Nat) (xk : Nat → Int32) (xc : Nat → Int32) (xt : Nat → Nat → Int32) (xn : Nat → Nat → Int64) (xl : Nat → Nat → Int32) (k26 : Int32 → Option (Int32)) (v2 : Int32) : Option (Int32) :=
  if v2 < (xc v0) then
    bd1 (p_X0_isSame v0 v2 v1 v2 xk xt xn xl) <| fun a_1 =>
    if a_1 = (nI 0) then
      some ((nI 0))
    else
      k26 (v2 + (nI 1))
  else
    some ((nI 1))
def p_X0_isLike (v0 : Nat) (v1 : Nat) (xk : Nat → Int32) (xc : Nat → Int32) (xt : Nat → Nat → Int32) (xn : Nat → Nat → Int64) (xl : Nat → Nat → Int32) : Option (Int32) :=
  if (xk v0) = (xk v1) then
    if (xc v0) = (xc v1) then
      itr1 (p_X0_isLike_L26 v0 v1 xk xc xt xn xl ) fu (nI 0)
    else
      some ((nI 0))
  else
    some ((nI 0))
def p_X0_firstLike_L2 (v0 : Nat) (v1 : Int32) (xk : Nat → Int32) (xt : Nat → Nat → Int32) (xn : Nat → Nat → Int64) (xl : Nat → Nat → Int32) (k2 : Int32 → Option (Int32)) (v2 : Int32) : Option (Int32) :=
  if v2 < v1 then
    bd1 (p_X0_isSame v0 v2 v0 v1 xk xt xn xl) <| fun a_1 =>
    if a_1 = (nI 0) then
      k2 (v2 + (nI 1))
    else
      some (v2)
  else
    some (v1)
def p_X0_firstLike (v0 : Nat) (v1 : Int32) (xk : Nat → Int32) (xt : Nat → Nat → Int32) (xn : Nat → Nat → Int64) (xl : Nat → Nat → Int32) : Option (Int32) :=
  itr1 (p_X0_firstLike_L2 v0 v1 xk xt xn xl ) fu (nI 0)
def p_X0_countAbsent_L4 (v0 : Nat) (xc : Nat → Int32) (xt : Nat → Nat → Int32) (k4 : Int32 → Int32 → Option (Int32)) (v1 : Int32) (v2 : Int32) : Option (Int32) :=
  if v2 < (xc v0) then
    bd1 (p_X0_isThere v0 v2 xt) <| fun a_1 =>
    if a_1 = (nI 0) then
      k4 (v1 + (nI 1)) (v2 + (nI 1))
    else
      k4 (v1 + (nI 0)) (v2 + (nI 1))
  else
    some (v1)
def p_X0_countAbsent (v0 : Nat) (xc : Nat → Int32) (xt : Nat → Nat → Int32) : Option (Int32) :=
  itr2 (p_X0_countAbsent_L4 v0 xc xt ) fu (nI 0) (nI 0)
def p_X0_countUnlike_L4 (v0 : Nat) (xk : Nat → Int32) (xc : Nat → Int32) (xt : Nat → Nat → Int32) (xn : Nat → Nat → Int64) (xl : Nat → Nat → Int32) (k4 : Int32 → Int32 → Option (Int32)) (v1 : Int32) (v2 : Int32) : Option (Int32) :=
  if v2 < (xc v0) then
    bd1 (p_X0_isThere v0 v2 xt) <| fun a_1 =>
    if a_1 = (nI 0) then
      k4 (v1 + (nI 0)) (v2 + (nI 1))
    else
      bd1 (p_X0_firstLike v0 v2 xk xt xn xl) <| fun a_3 =>
      if a_3 = v2 then
        k4 (v1 + (nI 1)) (v2 + (nI 1))
      else
        k4 (v1 + (nI 0)) (v2 + (nI 1))
  else
    some (v1)
def p_X0_countUnlike (v0 : Nat) (xk : Nat → Int32) (xc : Nat → Int32) (xt : Nat → Nat → Int32) (xn : Nat → Nat → Int64) (xl : Nat → Nat → Int32) : Option (Int32) :=
  itr2 (p_X0_countUnlike_L4 v0 xk xc xt xn xl ) fu (nI 0) (nI 0)
def p_X4_isSound (str : Int32) : Option (Int32) :=
  if str = (nI 0) then
    some ((nI 1))
  else
    some ((nI 0))
def p_X1_countOnes_L4 (v1 : Int32) (la : Nat → Nat → Int64) (str : Int32) (k4 : Int32 → Int32 → Option (Int32)) (v2 : Int32) (v3 : Int32) : Option (Int32) :=
  if v3 < v1 then
    if v3 < (nI 200) then
      bd1 (p_X4_isSound str) <| fun a_1 =>
      if a_1 = (nI 0) then
        k4 (v2 + (nI 0)) (v3 + (nI 1))
      else
        gd (inb v3 200) <|
        if (la 1 (ix v3)) = (lN 0) then
          k4 (v2 + (nI 0)) (v3 + (nI 1))
        else
          k4 (v2 + (nI 1)) (v3 + (nI 1))
    else
      some (v2)
  else
    some (v2)
def p_X1_countOnes (v1 : Int32) (la : Nat → Nat → Int64) (str : Int32) : Option (Int32) :=
  itr2 (p_X1_countOnes_L4 v1 la str ) fu (nI 0) (nI 0)
def p_X1_pushNumbers_L2 (v1 : Int32) (xk : Nat → Int32) (la : Nat → Nat → Int64) (str : Int32) (k2 : Int32 → (Nat → Int32) → (Nat → Nat → Int32) → (Nat → Nat → Int64) → Option ((Nat → Int32) × (Nat → Nat → Int32) × (Nat → Nat → Int64))) (v2 : Int32) (xc : Nat → Int32) (xt : Nat → Nat → Int32) (xn : Nat → Nat → Int64) : Option ((Nat → Int32) × (Nat → Nat → Int32) × (Nat → Nat → Int64)) :=
  if v2 < v1 then
    if v2 < (nI 200) then
      bd1 (p_X4_isSound str) <| fun a_1 =>
      if a_1 = (nI 0) then
        some (xc, xt, xn)
      else
        gd (inb v2 200) <|
        bd3 (p_X0_pushNumber 4 (la 2 (ix v2)) xk xc xt xn) <| fun xc_4 xt_5 xn_6 =>
        k2 (v2 + (nI 1)) xc_4 xt_5 xn_6
    else
      some (xc, xt, xn)
  else
    some (xc, xt, xn)
def p_X1_pushNumbers (v1 : Int32) (xk : Nat → Int32) (xc : Nat → Int32) (xt : Nat → Nat → Int32) (xn : Nat → Nat → Int64) (la : Nat → Nat → Int64) (str : Int32) : Option ((Nat → Int32) × (Nat → Nat → Int32) × (Nat → Nat → Int64)) :=
  itr4 (p_X1_pushNumbers_L2 v1 xk la str ) fu (nI 0) xc xt xn
def p_X4_demand (v1 : Int32) (v2 : Int32) (v3 : Int32) (str : Int32) (stp : Int32) : Option (Int32 × Int32) :=
  if str = (nI 0) then
    if v1 = (nI 0) then
      some (v2, v3)
    else
      some (str, stp)
  else
    some (str, stp)
def p_X4_left (ssp : Int32) (sen : Int32) : Option (Int32) :=
  some ((sen - ssp))
def p_X4_next_J49 (ssp : Int32) : Option (Int32 × Int32 × Int32 × Int32) :=
  some ((nI 0), ssp, (nI 1), ssp)
def p_X4_next (rb : Nat → Nat → Int32) (srow : Option Nat) (ssp : Int32) (sen : Int32) (str : Int32) (stp : Int32) : Option (Int32 × Int32 × Int32 × Int32) :=
  if str = (nI 0) then
    mo srow
      (
        some ((nI 0), ssp, str, stp))
      (fun o_1 => gd (decide (o_1 < 4)) <|
        if ssp < (nI 0) then
          p_X4_next_J49 ssp
        else
          if ssp < sen then
            if ssp < (nI (rlen o_1)) then
              gd (inb ssp (rlen o_1)) <|
              some (((rb o_1 (ix ssp)) &&& (nI 255)), (ssp + (nI 1)), str, stp)
            else
              p_X4_next_J49 ssp
          else
            p_X4_next_J49 ssp)
  else
    some ((nI 0), ssp, str, stp)
def p_X4_nextPacked_J53 (v6 : Int32) (v7 : Int32) (v9 : Int64) (v11 : Int32) (ssp : Int32) (str : Int32) (stp : Int32) (k31 : Int32 → Int32 → Int64 → Int32 → Int32 → Int32 → Int32 → Option ((Nat → Nat → Int64) × Int32 × Int32 × Int32)) : Option ((Nat → Nat → Int64) × Int32 × Int32 × Int32) :=
  k31 (ishr v6 (nI 1)) (v7 + (-1 : Int32)) (v9 ||| (lshl (i2l (v6 &&& (nI 1))) v11)) (v11 + (nI 1)) ssp str stp
def p_X4_nextPacked_L31 (v5 : Int32) (rb : Nat → Nat → Int32) (srow : Option Nat) (sen : Int32) (k81 : Int32 → Int32 → Int64 → Int32 → Int32 → Int32 → Option ((Nat → Nat → Int64) × Int32 × Int32 × Int32)) (k31 : Int32 → Int32 → Int64 → Int32 → Int32 → Int32 → Int32 → Option ((Nat → Nat → Int64) × Int32 × Int32 × Int32)) (v6 : Int32) (v7 : Int32) (v9 : Int64) (v11 : Int32) (ssp : Int32) (str : Int32) (stp : Int32) : Option ((Nat → Nat → Int64) × Int32 × Int32 × Int32) :=
  if v11 < v5 then
    if v7 = (nI 0) then
      bd4 (p_X4_next rb srow ssp sen str stp) <| fun a_1 ssp_2 str_3 stp_4 =>
      p_X4_nextPacked_J53 a_1 (nI 8) v9 v11 ssp_2 str_3 stp_4 k31
    else
      p_X4_nextPacked_J53 v6 v7 v9 v11 ssp str stp k31
  else
    k81 v6 v7 v9 ssp str stp
def p_X4_nextPacked_L9 (v1 : Nat) (v2 : Int32) (v3 : Int32) (v4 : Int32) (v5 : Int32) (rb : Nat → Nat → Int32) (srow : Option Nat) (sen : Int32) (k9 : Int32 → Int32 → Int32 → (Nat → Nat → Int64) → Int32 → Int32 → Int32 → Option ((Nat → Nat → Int64) × Int32 × Int32 × Int32)) (v6 : Int32) (v7 : Int32) (v8 : Int32) (la : Nat → Nat → Int64) (ssp : Int32) (str : Int32) (stp : Int32) : Option ((Nat → Nat → Int64) × Int32 × Int32 × Int32) :=
  if v8 < (v2 + v4) then
    if str = (nI 0) then
      itr7 (p_X4_nextPacked_L31 v5 rb srow sen (fun v6_6 v7_7 v9_8 ssp_9 str_10 stp_11 =>
          if v8 < (nI 0) then
            k9 v6_6 v7_7 (v8 + (nI 1)) la ssp_9 str_10 stp_11
          else
            if v8 < v3 then
              if v8 < (nI 200) then
                gd (inb v8 200) <|
                k9 v6_6 v7_7 (v8 + (nI 1)) (up la v1 (up (la v1) (ix v8) v9_8)) ssp_9 str_10 stp_11
              else
                k9 v6_6 v7_7 (v8 + (nI 1)) la ssp_9 str_10 stp_11
            else
              k9 v6_6 v7_7 (v8 + (nI 1)) la ssp_9 str_10 stp_11)) fu v6 v7 (lN 0) (nI 0) ssp str stp
    else
      some (la, ssp, str, stp)
  else
    some (la, ssp, str, stp)
def p_X4_nextPacked (v1 : Nat) (v2 : Int32) (v3 : Int32) (v4 : Int32) (v5 : Int32) (rb : Nat → Nat → Int32) (la : Nat → Nat → Int64) (srow : Option Nat) (ssp : Int32) (sen : Int32) (str : Int32) (stp : Int32) : Option ((Nat → Nat → Int64) × Int32 × Int32 × Int32) :=
  itr7 (p_X4_nextPacked_L9 v1 v2 v3 v4 v5 rb srow sen ) fu (nI 0) (nI 0) v2 la ssp str stp
def p_X4_nextVar_J58 (v1 : Int64) (v3 : Int32) (v4 : Int32) (ssp : Int32) (str : Int32) (stp : Int32) (k4 : Int64 → Int32 → Int32 → Int32 → Int32 → Option (Int64 × Int32 × Int32 × Int32)) : Option (Int64 × Int32 × Int32 × Int32) :=
  if v4 < (nI 128) then
    some (v1, ssp, str, stp)
  else
    k4 v1 (v3 + (nI 1)) ssp str stp
def p_X4_nextVar_J48 (v1 : Int64) (v3 : Int32) (v4 : Int32) (s1 : Int32) (ssp : Int32) (str : Int32) (stp : Int32) (k4 : Int64 → Int32 → Int32 → Int32 → Int32 → Option (Int64 × Int32 × Int32 × Int32)) : Option (Int64 × Int32 × Int32 × Int32) :=
  bd2 (p_X4_demand s1 (nI 2) (ssp - (nI 1)) str stp) <| fun str_6 stp_7 =>
  p_X4_nextVar_J58 v1 v3 v4 ssp str_6 stp_7 k4
def p_X4_nextVar_L4 (rb : Nat → Nat → Int32) (srow : Option Nat) (sen : Int32) (k4 : Int64 → Int32 → Int32 → Int32 → Int32 → Option (Int64 × Int32 × Int32 × Int32)) (v1 : Int64) (v3 : Int32) (ssp : Int32) (str : Int32) (stp : Int32) : Option (Int64 × Int32 × Int32 × Int32) :=
  if v3 < (nI 10) then
    bd4 (p_X4_next rb srow ssp sen str stp) <| fun a_1 ssp_2 str_3 stp_4 =>
    if v3 = (nI 9) then
      if (nI 1) < a_1 then
        p_X4_nextVar_J48 (v1 ||| (lshl (i2l (a_1 &&& (nI 127))) ((nI 7) * v3))) v3 a_1 (nI 0) ssp_2 str_3 stp_4 k4
      else
        p_X4_nextVar_J48 (v1 ||| (lshl (i2l (a_1 &&& (nI 127))) ((nI 7) * v3))) v3 a_1 (nI 1) ssp_2 str_3 stp_4 k4
    else
      p_X4_nextVar_J58 (v1 ||| (lshl (i2l (a_1 &&& (nI 127))) ((nI 7) * v3))) v3 a_1 ssp_2 str_3 stp_4 k4
  else
    some (v1, ssp, str, stp)
def p_X4_nextVar (rb : Nat → Nat → Int32) (srow : Option Nat) (ssp : Int32) (sen : Int32) (str : Int32) (stp : Int32) : Option (Int64 × Int32 × Int32 × Int32) :=
  itr5 (p_X4_nextVar_L4 rb srow sen ) fu (lN 0) (nI 0) ssp str stp
def p_X4_nextWidths_J43 (v3 : Int32) (v4 : Int32) (v5 : Int32) (s1 : Int32) (ssp : Int32) (str : Int32) (stp : Int32) (swd : Nat → Int32) (k2 : Int32 → Int32 → Int32 → Int32 → (Nat → Int32) → Option (Int32 × Int32 × Int32 × (Nat → Int32))) : Option (Int32 × Int32 × Int32 × (Nat → Int32)) :=
  bd2 (p_X4_demand s1 (nI 6) v4 str stp) <| fun str_6 stp_7 =>
  if str_6 = (nI 0) then
    gd (inb v3 4) <|
    k2 (v3 + (nI 1)) ssp str_6 stp_7 (up swd (ix v3) v5)
  else
    gd (inb v3 4) <|
    k2 (v3 + (nI 1)) ssp str_6 stp_7 (up swd (ix v3) (nI 0))
def p_X4_nextWidths_J35 (v3 : Int32) (v4 : Int32) (v5 : Int32) (s1 : Int32) (s2 : Int32) (ssp : Int32) (str : Int32) (stp : Int32) (swd : Nat → Int32) (k2 : Int32 → Int32 → Int32 → Int32 → (Nat → Int32) → Option (Int32 × Int32 × Int32 × (Nat → Int32))) : Option (Int32 × Int32 × Int32 × (Nat → Int32)) :=
  if s2 < s1 then
    p_X4_nextWidths_J43 v3 v4 v5 (nI 0) ssp str stp swd k2
  else
    p_X4_nextWidths_J43 v3 v4 v5 (nI 1) ssp str stp swd k2
def p_X4_nextWidths_L2 (v1 : Int32) (v2 : Int32) (rb : Nat → Nat → Int32) (srow : Option Nat) (sen : Int32) (k2 : Int32 → Int32 → Int32 → Int32 → (Nat → Int32) → Option (Int32 × Int32 × Int32 × (Nat → Int32))) (v3 : Int32) (ssp : Int32) (str : Int32) (stp : Int32) (swd : Nat → Int32) : Option (Int32 × Int32 × Int32 × (Nat → Int32)) :=
  if v3 < (nI 4) then
    bd4 (p_X4_next rb srow ssp sen str stp) <| fun a_1 ssp_2 str_3 stp_4 =>
    if (v3 * (nI 32)) < v1 then
      p_X4_nextWidths_J35 v3 ssp a_1 a_1 v2 ssp_2 str_3 stp_4 swd k2
    else
      p_X4_nextWidths_J35 v3 ssp a_1 a_1 (nI 0) ssp_2 str_3 stp_4 swd k2
  else
    some (ssp, str, stp, swd)
def p_X4_nextWidths (v1 : Int32) (v2 : Int32) (rb : Nat → Nat → Int32) (srow : Option Nat) (ssp : Int32) (sen : Int32) (str : Int32) (stp : Int32) (swd : Nat → Int32) : Option (Int32 × Int32 × Int32 × (Nat → Int32)) :=
  itr5 (p_X4_nextWidths_L2 v1 v2 rb srow sen ) fu (nI 0) ssp str stp swd
def p_X5_unzigged (v0 : Int64) : Option (Int64) :=
  some (((lushr v0 (nI 1)) ^^^ (-(v0 &&& (lN 1)))))
def p_X4_nextDifferences_L168 (v1 : Nat) (v7 : Int32) (v8 : Int32) (rb : Nat → Nat → Int32) (srow : Option Nat) (sen : Int32) (swd : Nat → Int32) (k217 : (Nat → Nat → Int64) → Int32 → Int32 → Int32 → Option ((Nat → Nat → Int64) × Int32 × Int32 × Int32 × (Nat → Int32))) (k168 : Int32 → (Nat → Nat → Int64) → Int32 → Int32 → Int32 → Option ((Nat → Nat → Int64) × Int32 × Int32 × Int32 × (Nat → Int32))) (v11 : Int32) (la : Nat → Nat → Int64) (ssp : Int32) (str : Int32) (stp : Int32) : Option ((Nat → Nat → Int64) × Int32 × Int32 × Int32 × (Nat → Int32)) :=
  if v11 < (nI 4) then
    if (v7 + (v11 * (nI 32))) < v8 then
      gd (inb v11 4) <|
      bd4 (p_X4_nextPacked v1 (v7 + (v11 * (nI 32))) v8 (nI 32) (swd (ix v11)) rb la srow ssp sen str stp) <| fun la_46 ssp_47 str_48 stp_49 =>
      k168 (v11 + (nI 1)) la_46 ssp_47 str_48 stp_49
    else
      k217 la ssp str stp
  else
    k217 la ssp str stp
def p_X4_nextDifferences_L221 (v1 : Nat) (v3 : Int32) (v8 : Int32) (v9 : Int64) (k274 : (Nat → Nat → Int64) → Option ((Nat → Nat → Int64) × Int32 × Int32 × Int32 × (Nat → Int32))) (k221 : Int32 → (Nat → Nat → Int64) → Option ((Nat → Nat → Int64) × Int32 × Int32 × Int32 × (Nat → Int32))) (v11 : Int32) (la : Nat → Nat → Int64) : Option ((Nat → Nat → Int64) × Int32 × Int32 × Int32 × (Nat → Int32)) :=
  if v11 < v8 then
    if v11 < (nI 200) then
      gd (inb (v11 - (nI 1)) 200) <|
      gd (inb v11 200) <|
      if v3 = (nI 0) then
        gd (inb v11 200) <|
        k221 (v11 + (nI 1)) (up la v1 (up (la v1) (ix v11) (((la v1 (ix (v11 - (nI 1)))) + v9) + (la v1 (ix v11)))))
      else
        gd (inb v11 200) <|
        k221 (v11 + (nI 1)) (up la v1 (up (la v1) (ix v11) (i2l (l2i (((la v1 (ix (v11 - (nI 1)))) + v9) + (la v1 (ix v11)))))))
    else
      k274 la
  else
    k274 la
def p_X4_nextDifferences_L111 (v1 : Nat) (v2 : Int32) (v3 : Int32) (rb : Nat → Nat → Int32) (srow : Option Nat) (sen : Int32) (k111 : Int32 → (Nat → Nat → Int64) → Int32 → Int32 → Int32 → (Nat → Int32) → Option ((Nat → Nat → Int64) × Int32 × Int32 × Int32 × (Nat → Int32))) (v7 : Int32) (la : Nat → Nat → Int64) (ssp : Int32) (str : Int32) (stp : Int32) (swd : Nat → Int32) : Option ((Nat → Nat → Int64) × Int32 × Int32 × Int32 × (Nat → Int32)) :=
  if v7 < v2 then
    if str = (nI 0) then
      bd4 (p_X4_nextVar rb srow ssp sen str stp) <| fun a_33 ssp_34 str_35 stp_36 =>
      bd1 (p_X5_unzigged a_33) <| fun a_38 =>
      if v3 = (nI 0) then
        bd4 (p_X4_nextWidths ((imin (v7 + (nI 128)) v2) - v7) (nI 64) rb srow ssp_34 sen str_35 stp_36 swd) <| fun ssp_40 str_41 stp_42 swd_43 =>
        itr5 (p_X4_nextDifferences_L168 v1 v7 (imin (v7 + (nI 128)) v2) rb srow sen swd_43 (fun la_51 ssp_52 str_53 stp_54 =>
            itr2 (p_X4_nextDifferences_L221 v1 v3 (imin (v7 + (nI 128)) v2) a_38 (fun la_59 =>
                k111 (v7 + (nI 128)) la_59 ssp_52 str_53 stp_54 swd_43)) fu v7 la_51)) fu (nI 0) la ssp_40 str_41 stp_42
      else
        bd4 (p_X4_nextWidths ((imin (v7 + (nI 128)) v2) - v7) (nI 32) rb srow ssp_34 sen str_35 stp_36 swd) <| fun ssp_60 str_61 stp_62 swd_63 =>
        itr5 (p_X4_nextDifferences_L168 v1 v7 (imin (v7 + (nI 128)) v2) rb srow sen swd_63 (fun la_65 ssp_66 str_67 stp_68 =>
            itr2 (p_X4_nextDifferences_L221 v1 v3 (imin (v7 + (nI 128)) v2) a_38 (fun la_69 =>
                k111 (v7 + (nI 128)) la_69 ssp_66 str_67 stp_68 swd_63)) fu v7 la_65)) fu (nI 0) la ssp_60 str_61 stp_62
    else
      some (la, ssp, str, stp, swd)
  else
    some (la, ssp, str, stp, swd)
def p_X4_nextDifferences_J68 (v1 : Nat) (v2 : Int32) (v3 : Int32) (v4 : Int32) (s1 : Int32) (rb : Nat → Nat → Int32) (la : Nat → Nat → Int64) (srow : Option Nat) (ssp : Int32) (sen : Int32) (str : Int32) (stp : Int32) (swd : Nat → Int32) : Option ((Nat → Nat → Int64) × Int32 × Int32 × Int32 × (Nat → Int32)) :=
  bd2 (p_X4_demand s1 (nI 5) v4 str stp) <| fun str_22 stp_23 =>
  bd4 (p_X4_nextVar rb srow ssp sen str_22 stp_23) <| fun a_25 ssp_26 str_27 stp_28 =>
  bd1 (p_X5_unzigged a_25) <| fun a_30 =>
  if (nI 0) < v2 then
    if (nI 0) < (nI 200) then
      if v3 = (nI 0) then
        gd (inb (nI 0) 200) <|
        itr6 (p_X4_nextDifferences_L111 v1 v2 v3 rb srow sen ) fu (nI 1) (up la v1 (up (la v1) (ix (nI 0)) a_30)) ssp_26 str_27 stp_28 swd
      else
        gd (inb (nI 0) 200) <|
        itr6 (p_X4_nextDifferences_L111 v1 v2 v3 rb srow sen ) fu (nI 1) (up la v1 (up (la v1) (ix (nI 0)) (i2l (l2i a_30)))) ssp_26 str_27 stp_28 swd
    else
      itr6 (p_X4_nextDifferences_L111 v1 v2 v3 rb srow sen ) fu (nI 1) la ssp_26 str_27 stp_28 swd
  else
    itr6 (p_X4_nextDifferences_L111 v1 v2 v3 rb srow sen ) fu (nI 1) la ssp_26 str_27 stp_28 swd
def p_X4_nextDifferences_J46 (v1 : Nat) (v2 : Int32) (v3 : Int32) (v4 : Int32) (s1 : Int32) (rb : Nat → Nat → Int32) (la : Nat → Nat → Int64) (srow : Option Nat) (ssp : Int32) (sen : Int32) (str : Int32) (stp : Int32) (swd : Nat → Int32) : Option ((Nat → Nat → Int64) × Int32 × Int32 × Int32 × (Nat → Int32)) :=
  bd2 (p_X4_demand s1 (nI 5) v4 str stp) <| fun str_14 stp_15 =>
  bd4 (p_X4_nextVar rb srow ssp sen str_14 stp_15) <| fun a_17 ssp_18 str_19 stp_20 =>
  if a_17 = (i2l v2) then
    p_X4_nextDifferences_J68 v1 v2 v3 v4 (nI 1) rb la srow ssp_18 sen str_19 stp_20 swd
  else
    p_X4_nextDifferences_J68 v1 v2 v3 v4 (nI 0) rb la srow ssp_18 sen str_19 stp_20 swd
def p_X4_nextDifferences_J23 (v1 : Nat) (v2 : Int32) (v3 : Int32) (v4 : Int32) (s1 : Int32) (rb : Nat → Nat → Int32) (la : Nat → Nat → Int64) (srow : Option Nat) (ssp : Int32) (sen : Int32) (str : Int32) (stp : Int32) (swd : Nat → Int32) : Option ((Nat → Nat → Int64) × Int32 × Int32 × Int32 × (Nat → Int32)) :=
  bd2 (p_X4_demand s1 (nI 5) v4 str stp) <| fun str_6 stp_7 =>
  bd4 (p_X4_nextVar rb srow ssp sen str_6 stp_7) <| fun a_9 ssp_10 str_11 stp_12 =>
  if a_9 = (lN 4) then
    p_X4_nextDifferences_J46 v1 v2 v3 v4 (nI 1) rb la srow ssp_10 sen str_11 stp_12 swd
  else
    p_X4_nextDifferences_J46 v1 v2 v3 v4 (nI 0) rb la srow ssp_10 sen str_11 stp_12 swd
def p_X4_nextDifferences (v1 : Nat) (v2 : Int32) (v3 : Int32) (rb : Nat → Nat → Int32) (la : Nat → Nat → Int64) (srow : Option Nat) (ssp : Int32) (sen : Int32) (str : Int32) (stp : Int32) (swd : Nat → Int32) : Option ((Nat → Nat → Int64) × Int32 × Int32 × Int32 × (Nat → Int32)) :=
  bd4 (p_X4_nextVar rb srow ssp sen str stp) <| fun a_1 ssp_2 str_3 stp_4 =>
  if a_1 = (lN 128) then
    p_X4_nextDifferences_J23 v1 v2 v3 ssp (nI 1) rb la srow ssp_2 sen str_3 stp_4 swd
  else
    p_X4_nextDifferences_J23 v1 v2 v3 ssp (nI 0) rb la srow ssp_2 sen str_3 stp_4 swd
def p_X4_nextText (v1 : Nat) (v2 : Int32) (xc : Nat → Int32) (xt : Nat → Nat → Int32) (xn : Nat → Nat → Int64) (xl : Nat → Nat → Int32) (rc : Nat → Int32) (rb : Nat → Nat → Int32) (srow : Option Nat) (ssp : Int32) (sen : Int32) (str : Int32) : Option ((Nat → Int32) × (Nat → Nat → Int32) × (Nat → Nat → Int64) × (Nat → Nat → Int32) × Int32) :=
  if str = (nI 0) then
    mo srow
      (
        some (xc, xt, xn, xl, ssp))
      (fun o_1 => gd (decide (o_1 < 4)) <|
        if v2 < (nI 0) then
          some (xc, xt, xn, xl, ssp)
        else
          bd1 (p_X4_left ssp sen) <| fun a_3 =>
          if a_3 < v2 then
            some (xc, xt, xn, xl, ssp)
          else
            bd4 (p_X0_pushText v1 o_1 ssp v2 xc xt xn xl rc rb) <| fun xc_5 xt_6 xn_7 xl_8 =>
            some (xc_5, xt_6, xn_7, xl_8, (ssp + v2)))
  else
    some (xc, xt, xn, xl, ssp)
def p_X1_readLengths_J73 (v2 : Int64) (v5 : Int32) (s0 : Int32) (la : Nat → Nat → Int64) (k21 : Int64 → Int32 → Int32 → Option ((Nat → Int32) × (Nat → Nat → Int32) × (Nat → Nat → Int64) × (Nat → Nat → Int32) × (Nat → Nat → Int64) × Int32 × Int32 × Int32 × (Nat → Int32))) : Option ((Nat → Int32) × (Nat → Nat → Int32) × (Nat → Nat → Int64) × (Nat → Nat → Int32) × (Nat → Nat → Int64) × Int32 × Int32 × Int32 × (Nat → Int32)) :=
  gd (inb v5 200) <|
  k21 (v2 + (la 2 (ix v5))) s0 (v5 + (nI 1))
def p_X1_readLengths_J72 (v2 : Int64) (v5 : Int32) (la : Nat → Nat → Int64) (k21 : Int64 → Int32 → Int32 → Option ((Nat → Int32) × (Nat → Nat → Int32) × (Nat → Nat → Int64) × (Nat → Nat → Int32) × (Nat → Nat → Int64) × Int32 × Int32 × Int32 × (Nat → Int32))) : Option ((Nat → Int32) × (Nat → Nat → Int32) × (Nat → Nat → Int64) × (Nat → Nat → Int32) × (Nat → Nat → Int64) × Int32 × Int32 × Int32 × (Nat → Int32)) :=
  p_X1_readLengths_J73 v2 v5 (nI 0) la k21
def p_X1_readLengths_L21 (v1 : Int32) (la : Nat → Nat → Int64) (k91 : Int64 → Int32 → Option ((Nat → Int32) × (Nat → Nat → Int32) × (Nat → Nat → Int64) × (Nat → Nat → Int32) × (Nat → Nat → Int64) × Int32 × Int32 × Int32 × (Nat → Int32))) (k21 : Int64 → Int32 → Int32 → Option ((Nat → Int32) × (Nat → Nat → Int32) × (Nat → Nat → Int64) × (Nat → Nat → Int32) × (Nat → Nat → Int64) × Int32 × Int32 × Int32 × (Nat → Int32))) (v2 : Int64) (v4 : Int32) (v5 : Int32) : Option ((Nat → Int32) × (Nat → Nat → Int32) × (Nat → Nat → Int64) × (Nat → Nat → Int32) × (Nat → Nat → Int64) × Int32 × Int32 × Int32 × (Nat → Int32)) :=
  if v5 < v1 then
    if v5 < (nI 200) then
      if v4 = (nI 0) then
        p_X1_readLengths_J72 v2 v5 la k21
      else
        gd (inb v5 200) <|
        if (la 2 (ix v5)) < (lN 0) then
          p_X1_readLengths_J72 v2 v5 la k21
        else
          gd (inb v5 200) <|
          if (lN 40) < (la 2 (ix v5)) then
            p_X1_readLengths_J72 v2 v5 la k21
          else
            p_X1_readLengths_J73 v2 v5 (nI 1) la k21
    else
      k91 v2 v4
  else
    k91 v2 v4
def p_X1_readLengths_L133 (v1 : Int32) (rc : Nat → Int32) (rb : Nat → Nat → Int32) (la : Nat → Nat → Int64) (srow : Option Nat) (sen : Int32) (str : Int32) (stp : Int32) (swd : Nat → Int32) (k133 : Int32 → (Nat → Int32) → (Nat → Nat → Int32) → (Nat → Nat → Int64) → (Nat → Nat → Int32) → Int32 → Option ((Nat → Int32) × (Nat → Nat → Int32) × (Nat → Nat → Int64) × (Nat → Nat → Int32) × (Nat → Nat → Int64) × Int32 × Int32 × Int32 × (Nat → Int32))) (v5 : Int32) (xc : Nat → Int32) (xt : Nat → Nat → Int32) (xn : Nat → Nat → Int64) (xl : Nat → Nat → Int32) (ssp : Int32) : Option ((Nat → Int32) × (Nat → Nat → Int32) × (Nat → Nat → Int64) × (Nat → Nat → Int32) × (Nat → Nat → Int64) × Int32 × Int32 × Int32 × (Nat → Int32)) :=
  if v5 < v1 then
    if v5 < (nI 200) then
      bd1 (p_X4_isSound str) <| fun a_15 =>
      if a_15 = (nI 0) then
        some (xc, xt, xn, xl, la, ssp, str, stp, swd)
      else
        gd (inb v5 200) <|
        bd5 (p_X4_nextText 4 (l2i (la 2 (ix v5))) xc xt xn xl rc rb srow ssp sen str) <| fun xc_18 xt_19 xn_20 xl_21 ssp_22 =>
        k133 (v5 + (nI 1)) xc_18 xt_19 xn_20 xl_21 ssp_22
    else
      some (xc, xt, xn, xl, la, ssp, str, stp, swd)
  else
    some (xc, xt, xn, xl, la, ssp, str, stp, swd)
def p_X1_readLengths_J91 (v1 : Int32) (v2 : Int64) (v4 : Int32) (xc : Nat → Int32) (xt : Nat → Nat → Int32) (xn : Nat → Nat → Int64) (xl : Nat → Nat → Int32) (rc : Nat → Int32) (rb : Nat → Nat → Int32) (la : Nat → Nat → Int64) (srow : Option Nat) (ssp : Int32) (sen : Int32) (str : Int32) (stp : Int32) (swd : Nat → Int32) : Option ((Nat → Int32) × (Nat → Nat → Int32) × (Nat → Nat → Int64) × (Nat → Nat → Int32) × (Nat → Nat → Int64) × Int32 × Int32 × Int32 × (Nat → Int32)) :=
  if v4 = (nI 0) then
    bd2 (p_X4_demand (nI 0) (nI 10) ssp str stp) <| fun str_12 stp_13 =>
    itr6 (p_X1_readLengths_L133 v1 rc rb la srow sen str_12 stp_13 swd ) fu (nI 0) xc xt xn xl ssp
  else
    bd1 (p_X4_left ssp sen) <| fun a_24 =>
    if (i2l a_24) < v2 then
      bd2 (p_X4_demand (nI 0) (nI 10) ssp str stp) <| fun str_26 stp_27 =>
      itr6 (p_X1_readLengths_L133 v1 rc rb la srow sen str_26 stp_27 swd ) fu (nI 0) xc xt xn xl ssp
    else
      bd2 (p_X4_demand (nI 1) (nI 10) ssp str stp) <| fun str_29 stp_30 =>
      itr6 (p_X1_readLengths_L133 v1 rc rb la srow sen str_29 stp_30 swd ) fu (nI 0) xc xt xn xl ssp
def p_X1_readLengths (v1 : Int32) (xc : Nat → Int32) (xt : Nat → Nat → Int32) (xn : Nat → Nat → Int64) (xl : Nat → Nat → Int32) (rc : Nat → Int32) (rb : Nat → Nat → Int32) (la : Nat → Nat → Int64) (srow : Option Nat) (ssp : Int32) (sen : Int32) (str : Int32) (stp : Int32) (swd : Nat → Int32) : Option ((Nat → Int32) × (Nat → Nat → Int32) × (Nat → Nat → Int64) × (Nat → Nat → Int32) × (Nat → Nat → Int64) × Int32 × Int32 × Int32 × (Nat → Int32)) :=
  bd5 (p_X4_nextDifferences 2 v1 (nI 1) rb la srow ssp sen str stp swd) <| fun la_1 ssp_2 str_3 stp_4 swd_5 =>
  itr3 (p_X1_readLengths_L21 v1 la_1 (fun v2_10 v4_11 =>
      p_X1_readLengths_J91 v1 v2_10 v4_11 xc xt xn xl rc rb la_1 srow ssp_2 sen str_3 stp_4 swd_5)) fu (lN 0) (nI 1) (nI 0)
def p_X4_demandNothingLeft (ssp : Int32) (sen : Int32) (str : Int32) (stp : Int32) : Option (Int32 × Int32) :=
  if ssp < sen then
    bd2 (p_X4_demand (nI 0) (nI 13) ssp str stp) <| fun str_1 stp_2 =>
    some (str_1, stp_2)
  else
    bd2 (p_X4_demand (nI 1) (nI 13) ssp str stp) <| fun str_4 stp_5 =>
    some (str_4, stp_5)
def p_X4_nextLittle_L5 (v1 : Int32) (rb : Nat → Nat → Int32) (srow : Option Nat) (sen : Int32) (k5 : Int64 → Int32 → Int32 → Int32 → Int32 → Option (Int64 × Int32 × Int32 × Int32)) (v2 : Int64) (v4 : Int32) (ssp : Int32) (str : Int32) (stp : Int32) : Option (Int64 × Int32 × Int32 × Int32) :=
  if v4 < v1 then
    bd4 (p_X4_next rb srow ssp sen str stp) <| fun a_1 ssp_2 str_3 stp_4 =>
    k5 (v2 ||| (lshl (i2l a_1) ((nI 8) * v4))) (v4 + (nI 1)) ssp_2 str_3 stp_4
  else
    some (v2, ssp, str, stp)
def p_X4_nextLittle (v1 : Int32) (rb : Nat → Nat → Int32) (srow : Option Nat) (ssp : Int32) (sen : Int32) (str : Int32) (stp : Int32) : Option (Int64 × Int32 × Int32 × Int32) :=
  itr5 (p_X4_nextLittle_L5 v1 rb srow sen ) fu (lN 0) (nI 0) ssp str stp
def p_X4_fill_L7 (v0 : Nat) (v2 : Int32) (v3 : Int64) (k7 : Int32 → (Nat → Nat → Int64) → Option ((Nat → Nat → Int64))) (v5 : Int32) (la : Nat → Nat → Int64) : Option ((Nat → Nat → Int64)) :=
  if v5 < v2 then
    if v5 < (nI 200) then
      gd (inb v5 200) <|
      k7 (v5 + (nI 1)) (up la v0 (up (la v0) (ix v5) v3))
    else
      some (la)
  else
    some (la)
def p_X4_fill (v0 : Nat) (v1 : Int32) (v2 : Int32) (v3 : Int64) (la : Nat → Nat → Int64) : Option ((Nat → Nat → Int64)) :=
  itr2 (p_X4_fill_L7 v0 v2 v3 ) fu (imax v1 (nI 0)) la
def p_X5_bitsOf_L2 (v0 : Int64) (k2 : Int32 → Option (Int32)) (v2 : Int32) : Option (Int32) :=
  if v2 < (nI 64) then
    if (lushr v0 v2) = (lN 0) then
      some (v2)
    else
      k2 (v2 + (nI 1))
  else
    some (v2)
def p_X5_bitsOf (v0 : Int64) : Option (Int32) :=
  itr1 (p_X5_bitsOf_L2 v0 ) fu (nI 0)
def p_X5_wholeGroups (v0 : Int32) : Option (Int32) :=
  some ((((v0 + (nI 8)) - (nI 1)) / (nI 8)))
def p_X4_nextRuns_J185 (v1 : Nat) (v4 : Int32) (v5 : Int32) (v6 : Int32) (v10 : Int64) (v14 : Int64) (s1 : Int32) (la : Nat → Nat → Int64) (ssp : Int32) (str : Int32) (stp : Int32) (k6 : Int32 → Int32 → (Nat → Nat → Int64) → Int32 → Int32 → Int32 → Option ((Nat → Nat → Int64) × Int32 × Int32 × Int32)) : Option ((Nat → Nat → Int64) × Int32 × Int32 × Int32) :=
  bd2 (p_X4_demand s1 (nI 4) v6 str stp) <| fun str_16 stp_17 =>
  bd1 (p_X4_fill v1 v4 (v4 + (l2i v10)) v14 la) <| fun la_19 =>
  k6 (v4 + (l2i v10)) (v5 + (nI 1)) la_19 ssp str_16 stp_17
def p_X4_nextRuns_J103 (v1 : Nat) (v2 : Int32) (v3 : Int32) (v4 : Int32) (v5 : Int32) (v6 : Int32) (v9 : Int32) (v10 : Int64) (s1 : Int32) (rb : Nat → Nat → Int32) (la : Nat → Nat → Int64) (srow : Option Nat) (ssp : Int32) (sen : Int32) (str : Int32) (stp : Int32) (k6 : Int32 → Int32 → (Nat → Nat → Int64) → Int32 → Int32 → Int32 → Option ((Nat → Nat → Int64) × Int32 × Int32 × Int32)) : Option ((Nat → Nat → Int64) × Int32 × Int32 × Int32) :=
  bd2 (p_X4_demand s1 (nI 3) v6 str stp) <| fun str_6 stp_7 =>
  if str_6 = (nI 0) then
    if v9 = (nI 0) then
      bd4 (p_X4_nextLittle ((v3 + (nI 7)) / (nI 8)) rb srow ssp sen str_6 stp_7) <| fun a_9 ssp_10 str_11 stp_12 =>
      bd1 (p_X5_bitsOf a_9) <| fun a_14 =>
      if v3 < a_14 then
        p_X4_nextRuns_J185 v1 v4 v5 ssp v10 a_9 (nI 0) la ssp_10 str_11 stp_12 k6
      else
        p_X4_nextRuns_J185 v1 v4 v5 ssp v10 a_9 (nI 1) la ssp_10 str_11 stp_12 k6
    else
      bd4 (p_X4_nextPacked v1 v4 v2 ((l2i v10) * (nI 8)) v3 rb la srow ssp sen str_6 stp_7) <| fun la_21 ssp_22 str_23 stp_24 =>
      k6 (v4 + ((l2i v10) * (nI 8))) (v5 + (nI 1)) la_21 ssp_22 str_23 stp_24
  else
    some (la, ssp, str_6, stp_7)
def p_X4_nextRuns_J102 (v1 : Nat) (v2 : Int32) (v3 : Int32) (v4 : Int32) (v5 : Int32) (v6 : Int32) (v9 : Int32) (v10 : Int64) (rb : Nat → Nat → Int32) (la : Nat → Nat → Int64) (srow : Option Nat) (ssp : Int32) (sen : Int32) (str : Int32) (stp : Int32) (k6 : Int32 → Int32 → (Nat → Nat → Int64) → Int32 → Int32 → Int32 → Option ((Nat → Nat → Int64) × Int32 × Int32 × Int32)) : Option ((Nat → Nat → Int64) × Int32 × Int32 × Int32) :=
  p_X4_nextRuns_J103 v1 v2 v3 v4 v5 v6 v9 v10 (nI 0) rb la srow ssp sen str stp k6
def p_X4_nextRuns_J80 (v1 : Nat) (v2 : Int32) (v3 : Int32) (v4 : Int32) (v5 : Int32) (v6 : Int32) (v9 : Int32) (v10 : Int64) (s0 : Int64) (rb : Nat → Nat → Int32) (la : Nat → Nat → Int64) (srow : Option Nat) (ssp : Int32) (sen : Int32) (str : Int32) (stp : Int32) (k6 : Int32 → Int32 → (Nat → Nat → Int64) → Int32 → Int32 → Int32 → Option ((Nat → Nat → Int64) × Int32 × Int32 × Int32)) : Option ((Nat → Nat → Int64) × Int32 × Int32 × Int32) :=
  if v10 < (lN 1) then
    p_X4_nextRuns_J102 v1 v2 v3 v4 v5 v6 v9 v10 rb la srow ssp sen str stp k6
  else
    if s0 < v10 then
      p_X4_nextRuns_J102 v1 v2 v3 v4 v5 v6 v9 v10 rb la srow ssp sen str stp k6
    else
      p_X4_nextRuns_J103 v1 v2 v3 v4 v5 v6 v9 v10 (nI 1) rb la srow ssp sen str stp k6
def p_X4_nextRuns_J51 (v1 : Nat) (v2 : Int32) (v3 : Int32) (v4 : Int32) (v5 : Int32) (v6 : Int32) (v7 : Int64) (s0 : Int32) (rb : Nat → Nat → Int32) (la : Nat → Nat → Int64) (srow : Option Nat) (ssp : Int32) (sen : Int32) (str : Int32) (stp : Int32) (k6 : Int32 → Int32 → (Nat → Nat → Int64) → Int32 → Int32 → Int32 → Option ((Nat → Nat → Int64) × Int32 × Int32 × Int32)) : Option ((Nat → Nat → Int64) × Int32 × Int32 × Int32) :=
  if s0 = (nI 0) then
    p_X4_nextRuns_J80 v1 v2 v3 v4 v5 v6 s0 (lushr v7 (nI 1)) (i2l (v2 - v4)) rb la srow ssp sen str stp k6
  else
    bd1 (p_X5_wholeGroups (v2 - v4)) <| fun a_26 =>
    p_X4_nextRuns_J80 v1 v2 v3 v4 v5 v6 s0 (lushr v7 (nI 1)) (i2l a_26) rb la srow ssp sen str stp k6
def p_X4_nextRuns_L6 (v1 : Nat) (v2 : Int32) (v3 : Int32) (rb : Nat → Nat → Int32) (srow : Option Nat) (sen : Int32) (k6 : Int32 → Int32 → (Nat → Nat → Int64) → Int32 → Int32 → Int32 → Option ((Nat → Nat → Int64) × Int32 × Int32 × Int32)) (v4 : Int32) (v5 : Int32) (la : Nat → Nat → Int64) (ssp : Int32) (str : Int32) (stp : Int32) : Option ((Nat → Nat → Int64) × Int32 × Int32 × Int32) :=
  if v5 < v2 then
    if v4 < v2 then
      if str = (nI 0) then
        bd4 (p_X4_nextVar rb srow ssp sen str stp) <| fun a_1 ssp_2 str_3 stp_4 =>
        if (a_1 &&& (lN 1)) = (lN 0) then
          p_X4_nextRuns_J51 v1 v2 v3 v4 v5 ssp a_1 (nI 0) rb la srow ssp_2 sen str_3 stp_4 k6
        else
          p_X4_nextRuns_J51 v1 v2 v3 v4 v5 ssp a_1 (nI 1) rb la srow ssp_2 sen str_3 stp_4 k6
      else
        some (la, ssp, str, stp)
    else
      some (la, ssp, str, stp)
  else
    some (la, ssp, str, stp)
def p_X4_nextRuns (v1 : Nat) (v2 : Int32) (v3 : Int32) (rb : Nat → Nat → Int32) (la : Nat → Nat → Int64) (srow : Option Nat) (ssp : Int32) (sen : Int32) (str : Int32) (stp : Int32) : Option ((Nat → Nat → Int64) × Int32 × Int32 × Int32) :=
  itr6 (p_X4_nextRuns_L6 v1 v2 v3 rb srow sen ) fu (nI 0) (nI 0) la ssp str stp
def p_X1_readOwnRuns_J45 (v1 : Nat) (v2 : Int32) (v3 : Int32) (v4 : Int32) (s1 : Int32) (rb : Nat → Nat → Int32) (la : Nat → Nat → Int64) (srow : Option Nat) (ssp : Int32) (sen : Int32) (str : Int32) (stp : Int32) : Option ((Nat → Nat → Int64) × Int32 × Int32 × Int32 × Int32) :=
  bd2 (p_X4_demand s1 (nI 10) v3 str stp) <| fun str_6 stp_7 =>
  bd1 (p_X4_isSound str_6) <| fun a_9 =>
  if a_9 = (nI 0) then
    some (la, ssp, sen, str_6, stp_7)
  else
    bd4 (p_X4_nextRuns v1 v2 (nI 1) rb la srow ssp (ssp + v4) str_6 stp_7) <| fun la_11 ssp_12 str_13 stp_14 =>
    bd2 (p_X4_demandNothingLeft ssp_12 (ssp + v4) str_13 stp_14) <| fun str_16 stp_17 =>
    some (la_11, ssp_12, sen, str_16, stp_17)
def p_X1_readOwnRuns_J44 (v1 : Nat) (v2 : Int32) (v3 : Int32) (v4 : Int32) (rb : Nat → Nat → Int32) (la : Nat → Nat → Int64) (srow : Option Nat) (ssp : Int32) (sen : Int32) (str : Int32) (stp : Int32) : Option ((Nat → Nat → Int64) × Int32 × Int32 × Int32 × Int32) :=
  p_X1_readOwnRuns_J45 v1 v2 v3 v4 (nI 0) rb la srow ssp sen str stp
def p_X1_readOwnRuns (v1 : Nat) (v2 : Int32) (rb : Nat → Nat → Int32) (la : Nat → Nat → Int64) (srow : Option Nat) (ssp : Int32) (sen : Int32) (str : Int32) (stp : Int32) : Option ((Nat → Nat → Int64) × Int32 × Int32 × Int32 × Int32) :=
  bd4 (p_X4_nextLittle (nI 4) rb srow ssp sen str stp) <| fun a_1 ssp_2 str_3 stp_4 =>
  if (l2i a_1) < (nI 0) then
    p_X1_readOwnRuns_J44 v1 v2 ssp (l2i a_1) rb la srow ssp_2 sen str_3 stp_4
  else
    bd1 (p_X4_left ssp_2 sen) <| fun a_19 =>
    if a_19 < (l2i a_1) then
      p_X1_readOwnRuns_J44 v1 v2 ssp (l2i a_1) rb la srow ssp_2 sen str_3 stp_4
    else
      p_X1_readOwnRuns_J45 v1 v2 ssp (l2i a_1) (nI 1) rb la srow ssp_2 sen str_3 stp_4
def p_X1_readPlaces_L62 (v1 : Int32) (v4 : Int32) (xc : Nat → Int32) (la : Nat → Nat → Int64) (k119 : Int32 → Int32 → Option ((Nat → Int32) × (Nat → Nat → Int32) × (Nat → Nat → Int64) × (Nat → Nat → Int32) × (Nat → Nat → Int64) × Int32 × Int32 × Int32)) (k62 : Int32 → Int32 → Int32 → Option ((Nat → Int32) × (Nat → Nat → Int32) × (Nat → Nat → Int64) × (Nat → Nat → Int32) × (Nat → Nat → Int64) × Int32 × Int32 × Int32)) (v5 : Int32) (str : Int32) (stp : Int32) : Option ((Nat → Int32) × (Nat → Nat → Int32) × (Nat → Nat → Int64) × (Nat → Nat → Int32) × (Nat → Nat → Int64) × Int32 × Int32 × Int32) :=
  if v5 < v1 then
    if v5 < (nI 200) then
      gd (inb v5 200) <|
      if (la 2 (ix v5)) < (i2l (xc 5)) then
        bd2 (p_X4_demand (nI 1) (nI 12) v4 str stp) <| fun str_15 stp_16 =>
        k62 (v5 + (nI 1)) str_15 stp_16
      else
        bd2 (p_X4_demand (nI 0) (nI 12) v4 str stp) <| fun str_18 stp_19 =>
        k62 (v5 + (nI 1)) str_18 stp_19
    else
      k119 str stp
  else
    k119 str stp
def p_X1_readPlaces_L122 (v1 : Int32) (xk : Nat → Int32) (la : Nat → Nat → Int64) (ssp : Int32) (str : Int32) (stp : Int32) (k122 : Int32 → (Nat → Int32) → (Nat → Nat → Int32) → (Nat → Nat → Int64) → (Nat → Nat → Int32) → Option ((Nat → Int32) × (Nat → Nat → Int32) × (Nat → Nat → Int64) × (Nat → Nat → Int32) × (Nat → Nat → Int64) × Int32 × Int32 × Int32)) (v5 : Int32) (xc : Nat → Int32) (xt : Nat → Nat → Int32) (xn : Nat → Nat → Int64) (xl : Nat → Nat → Int32) : Option ((Nat → Int32) × (Nat → Nat → Int32) × (Nat → Nat → Int64) × (Nat → Nat → Int32) × (Nat → Nat → Int64) × Int32 × Int32 × Int32) :=
  if v5 < v1 then
    if v5 < (nI 200) then
      bd1 (p_X4_isSound str) <| fun a_23 =>
      if a_23 = (nI 0) then
        some (xc, xt, xn, xl, la, ssp, str, stp)
      else
        gd (inb v5 200) <|
        bd4 (p_X0_pushCopy 4 5 (l2i (la 2 (ix v5))) xk xc xt xn xl) <| fun xc_26 xt_27 xn_28 xl_29 =>
        k122 (v5 + (nI 1)) xc_26 xt_27 xn_28 xl_29
    else
      some (xc, xt, xn, xl, la, ssp, str, stp)
  else
    some (xc, xt, xn, xl, la, ssp, str, stp)
def p_X1_readPlaces_J31 (v1 : Int32) (v2 : Int32) (v3 : Int32) (s1 : Int32) (xk : Nat → Int32) (xc : Nat → Int32) (xt : Nat → Nat → Int32) (xn : Nat → Nat → Int64) (xl : Nat → Nat → Int32) (rb : Nat → Nat → Int32) (la : Nat → Nat → Int64) (srow : Option Nat) (ssp : Int32) (sen : Int32) (str : Int32) (stp : Int32) : Option ((Nat → Int32) × (Nat → Nat → Int32) × (Nat → Nat → Int64) × (Nat → Nat → Int32) × (Nat → Nat → Int64) × Int32 × Int32 × Int32) :=
  bd2 (p_X4_demand s1 (nI 11) v2 str stp) <| fun str_6 stp_7 =>
  bd4 (p_X4_nextRuns 2 v1 v3 rb la srow ssp sen str_6 stp_7) <| fun la_9 ssp_10 str_11 stp_12 =>
  itr3 (p_X1_readPlaces_L62 v1 ssp xc la_9 (fun str_21 stp_22 =>
      itr5 (p_X1_readPlaces_L122 v1 xk la_9 ssp_10 str_21 stp_22 ) fu (nI 0) xc xt xn xl)) fu (nI 0) str_11 stp_12
def p_X1_readPlaces (v1 : Int32) (xk : Nat → Int32) (xc : Nat → Int32) (xt : Nat → Nat → Int32) (xn : Nat → Nat → Int64) (xl : Nat → Nat → Int32) (rb : Nat → Nat → Int32) (la : Nat → Nat → Int64) (srow : Option Nat) (ssp : Int32) (sen : Int32) (str : Int32) (stp : Int32) : Option ((Nat → Int32) × (Nat → Nat → Int32) × (Nat → Nat → Int64) × (Nat → Nat → Int32) × (Nat → Nat → Int64) × Int32 × Int32 × Int32) :=
  bd4 (p_X4_next rb srow ssp sen str stp) <| fun a_1 ssp_2 str_3 stp_4 =>
  if (nI 32) < a_1 then
    p_X1_readPlaces_J31 v1 ssp a_1 (nI 0) xk xc xt xn xl rb la srow ssp_2 sen str_3 stp_4
  else
    p_X1_readPlaces_J31 v1 ssp a_1 (nI 1) xk xc xt xn xl rb la srow ssp_2 sen str_3 stp_4
def p_X1_readPlain_J137 (v1 : Nat) (v3 : Int32) (v4 : Int32) (v5 : Int32) (s0 : Int32) (xc : Nat → Int32) (xt : Nat → Nat → Int32) (xn : Nat → Nat → Int64) (xl : Nat → Nat → Int32) (rc : Nat → Int32) (rb : Nat → Nat → Int32) (srow : Option Nat) (ssp : Int32) (sen : Int32) (str : Int32) (stp : Int32) (k37 : Int32 → (Nat → Int32) → (Nat → Nat → Int32) → (Nat → Nat → Int64) → (Nat → Nat → Int32) → Int32 → Int32 → Int32 → Option ((Nat → Int32) × (Nat → Nat → Int32) × (Nat → Nat → Int64) × (Nat → Nat → Int32) × (Nat → Nat → Int64) × Int32 × Int32 × Int32)) : Option ((Nat → Int32) × (Nat → Nat → Int32) × (Nat → Nat → Int64) × (Nat → Nat → Int32) × (Nat → Nat → Int64) × Int32 × Int32 × Int32) :=
  bd2 (p_X4_demand s0 (nI 10) v4 str stp) <| fun str_19 stp_20 =>
  bd5 (p_X4_nextText v1 v5 xc xt xn xl rc rb srow ssp sen str_19) <| fun xc_22 xt_23 xn_24 xl_25 ssp_26 =>
  k37 (v3 + (nI 1)) xc_22 xt_23 xn_24 xl_25 ssp_26 str_19 stp_20
def p_X1_readPlain_J136 (v1 : Nat) (v3 : Int32) (v4 : Int32) (v5 : Int32) (xc : Nat → Int32) (xt : Nat → Nat → Int32) (xn : Nat → Nat → Int64) (xl : Nat → Nat → Int32) (rc : Nat → Int32) (rb : Nat → Nat → Int32) (srow : Option Nat) (ssp : Int32) (sen : Int32) (str : Int32) (stp : Int32) (k37 : Int32 → (Nat → Int32) → (Nat → Nat → Int32) → (Nat → Nat → Int64) → (Nat → Nat → Int32) → Int32 → Int32 → Int32 → Option ((Nat → Int32) × (Nat → Nat → Int32) × (Nat → Nat → Int64) × (Nat → Nat → Int32) × (Nat → Nat → Int64) × Int32 × Int32 × Int32)) : Option ((Nat → Int32) × (Nat → Nat → Int32) × (Nat → Nat → Int64) × (Nat → Nat → Int32) × (Nat → Nat → Int64) × Int32 × Int32 × Int32) :=
  p_X1_readPlain_J137 v1 v3 v4 v5 (nI 0) xc xt xn xl rc rb srow ssp sen str stp k37
def p_X1_readPlain_L37 (v1 : Nat) (v2 : Int32) (xk : Nat → Int32) (rc : Nat → Int32) (rb : Nat → Nat → Int32) (la : Nat → Nat → Int64) (srow : Option Nat) (sen : Int32) (k37 : Int32 → (Nat → Int32) → (Nat → Nat → Int32) → (Nat → Nat → Int64) → (Nat → Nat → Int32) → Int32 → Int32 → Int32 → Option ((Nat → Int32) × (Nat → Nat → Int32) × (Nat → Nat → Int64) × (Nat → Nat → Int32) × (Nat → Nat → Int64) × Int32 × Int32 × Int32)) (v3 : Int32) (xc : Nat → Int32) (xt : Nat → Nat → Int32) (xn : Nat → Nat → Int64) (xl : Nat → Nat → Int32) (ssp : Int32) (str : Int32) (stp : Int32) : Option ((Nat → Int32) × (Nat → Nat → Int32) × (Nat → Nat → Int64) × (Nat → Nat → Int32) × (Nat → Nat → Int64) × Int32 × Int32 × Int32) :=
  if v3 < v2 then
    bd1 (p_X4_isSound str) <| fun a_12 =>
    if a_12 = (nI 0) then
      some (xc, xt, xn, xl, la, ssp, str, stp)
    else
      if (xk v1) = (nI 2) then
        bd4 (p_X4_nextLittle (nI 4) rb srow ssp sen str stp) <| fun a_14 ssp_15 str_16 stp_17 =>
        if (l2i a_14) < (nI 0) then
          p_X1_readPlain_J136 v1 v3 ssp (l2i a_14) xc xt xn xl rc rb srow ssp_15 sen str_16 stp_17 k37
        else
          if (nI 40) < (l2i a_14) then
            p_X1_readPlain_J136 v1 v3 ssp (l2i a_14) xc xt xn xl rc rb srow ssp_15 sen str_16 stp_17 k37
          else
            bd1 (p_X4_left ssp_15 sen) <| fun a_28 =>
            if a_28 < (l2i a_14) then
              p_X1_readPlain_J136 v1 v3 ssp (l2i a_14) xc xt xn xl rc rb srow ssp_15 sen str_16 stp_17 k37
            else
              p_X1_readPlain_J137 v1 v3 ssp (l2i a_14) (nI 1) xc xt xn xl rc rb srow ssp_15 sen str_16 stp_17 k37
      else
        if (xk v1) = (nI 1) then
          bd4 (p_X4_nextLittle (nI 8) rb srow ssp sen str stp) <| fun a_30 ssp_31 str_32 stp_33 =>
          bd3 (p_X0_pushNumber v1 a_30 xk xc xt xn) <| fun xc_35 xt_36 xn_37 =>
          k37 (v3 + (nI 1)) xc_35 xt_36 xn_37 xl ssp_31 str_32 stp_33
        else
          bd4 (p_X4_nextLittle (nI 4) rb srow ssp sen str stp) <| fun a_39 ssp_40 str_41 stp_42 =>
          bd3 (p_X0_pushNumber v1 a_39 xk xc xt xn) <| fun xc_44 xt_45 xn_46 =>
          k37 (v3 + (nI 1)) xc_44 xt_45 xn_46 xl ssp_40 str_41 stp_42
  else
    some (xc, xt, xn, xl, la, ssp, str, stp)
def p_X1_readPlain (v1 : Nat) (v2 : Int32) (xk : Nat → Int32) (xc : Nat → Int32) (xt : Nat → Nat → Int32) (xn : Nat → Nat → Int64) (xl : Nat → Nat → Int32) (rc : Nat → Int32) (rb : Nat → Nat → Int32) (la : Nat → Nat → Int64) (srow : Option Nat) (ssp : Int32) (sen : Int32) (str : Int32) (stp : Int32) : Option ((Nat → Int32) × (Nat → Nat → Int32) × (Nat → Nat → Int64) × (Nat → Nat → Int32) × (Nat → Nat → Int64) × Int32 × Int32 × Int32) :=
  if (xk v1) = (nI 3) then
    bd1 (p_X5_wholeGroups v2) <| fun a_1 =>
    bd4 (p_X4_nextPacked 2 (nI 0) v2 (a_1 * (nI 8)) (nI 1) rb la srow ssp sen str stp) <| fun la_3 ssp_4 str_5 stp_6 =>
    bd3 (p_X1_pushNumbers v2 xk xc xt xn la_3 str_5) <| fun xc_8 xt_9 xn_10 =>
    some (xc_8, xt_9, xn_10, xl, la_3, ssp_4, str_5, stp_6)
  else
    itr8 (p_X1_readPlain_L37 v1 v2 xk rc rb la srow sen ) fu (nI 0) xc xt xn xl ssp str stp
def p_X1_readData_J169 (v1 : Int32) (xk : Nat → Int32) (xo : Nat → Int32) (xc : Nat → Int32) (xt : Nat → Nat → Int32) (xn : Nat → Nat → Int64) (xl : Nat → Nat → Int32) (la : Nat → Nat → Int64) (ssp : Int32) (sen : Int32) (str : Int32) (stp : Int32) (swd : Nat → Int32) (rpv : Int32) : Option ((Nat → Int32) × (Nat → Nat → Int32) × (Nat → Nat → Int64) × (Nat → Nat → Int32) × (Nat → Nat → Int64) × Int32 × Int32 × Int32 × Int32 × (Nat → Int32)) :=
  if (xo 4) = (nI 0) then
    some (xc, xt, xn, xl, la, ssp, sen, str, stp, swd)
  else
    bd1 (p_X4_isSound str) <| fun a_11 =>
    if a_11 = (nI 0) then
      some (xc, xt, xn, xl, la, ssp, sen, str, stp, swd)
    else
      bd4 (p_X0_spread 4 v1 rpv 1 xk xc xt xn xl la) <| fun xc_13 xt_14 xn_15 xl_16 =>
      some (xc_13, xt_14, xn_15, xl_16, la, ssp, sen, str, stp, swd)
def p_X1_readData_J128 (v1 : Int32) (v2 : Int32) (s2 : Int32) (s3 : Int32) (xk : Nat → Int32) (xo : Nat → Int32) (xc : Nat → Int32) (xt : Nat → Nat → Int32) (xn : Nat → Nat → Int64) (xl : Nat → Nat → Int32) (rb : Nat → Nat → Int32) (la : Nat → Nat → Int64) (srow : Option Nat) (ssp : Int32) (sen : Int32) (str : Int32) (stp : Int32) (swd : Nat → Int32) (rpv : Int32) : Option ((Nat → Int32) × (Nat → Nat → Int32) × (Nat → Nat → Int64) × (Nat → Nat → Int32) × (Nat → Nat → Int64) × Int32 × Int32 × Int32 × Int32 × (Nat → Int32)) :=
  bd5 (p_X4_nextDifferences 2 s2 s3 rb la srow ssp sen str stp swd) <| fun la_60 ssp_61 str_62 stp_63 swd_64 =>
  bd3 (p_X1_pushNumbers v2 xk xc xt xn la_60 str_62) <| fun xc_66 xt_67 xn_68 =>
  p_X1_readData_J169 v1 xk xo xc_66 xt_67 xn_68 xl la_60 ssp_61 sen str_62 stp_63 swd_64 rpv
def p_X1_readData_J44 (v1 : Int32) (v2 : Int32) (xk : Nat → Int32) (xo : Nat → Int32) (xc : Nat → Int32) (xt : Nat → Nat → Int32) (xn : Nat → Nat → Int64) (xl : Nat → Nat → Int32) (rc : Nat → Int32) (rb : Nat → Nat → Int32) (la : Nat → Nat → Int64) (srow : Option Nat) (ssp : Int32) (sen : Int32) (str : Int32) (stp : Int32) (swd : Nat → Int32) (rpv : Int32) (rpc : Int32) : Option ((Nat → Int32) × (Nat → Nat → Int32) × (Nat → Nat → Int64) × (Nat → Nat → Int32) × (Nat → Nat → Int64) × Int32 × Int32 × Int32 × Int32 × (Nat → Int32)) :=
  if rpc = (nI 0) then
    bd8 (p_X1_readPlain 4 v2 xk xc xt xn xl rc rb la srow ssp sen str stp) <| fun xc_2 xt_3 xn_4 xl_5 la_6 ssp_7 str_8 stp_9 =>
    p_X1_readData_J169 v1 xk xo xc_2 xt_3 xn_4 xl_5 la_6 ssp_7 sen str_8 stp_9 swd rpv
  else
    if rpc = (nI 1) then
      bd8 (p_X1_readPlaces v2 xk xc xt xn xl rb la srow ssp sen str stp) <| fun xc_19 xt_20 xn_21 xl_22 la_23 ssp_24 str_25 stp_26 =>
      p_X1_readData_J169 v1 xk xo xc_19 xt_20 xn_21 xl_22 la_23 ssp_24 sen str_25 stp_26 swd rpv
    else
      if rpc = (nI 2) then
        bd8 (p_X1_readPlaces v2 xk xc xt xn xl rb la srow ssp sen str stp) <| fun xc_29 xt_30 xn_31 xl_32 la_33 ssp_34 str_35 stp_36 =>
        p_X1_readData_J169 v1 xk xo xc_29 xt_30 xn_31 xl_32 la_33 ssp_34 sen str_35 stp_36 swd rpv
      else
        if rpc = (nI 3) then
          bd5 (p_X1_readOwnRuns 2 v2 rb la srow ssp sen str stp) <| fun la_39 ssp_40 sen_41 str_42 stp_43 =>
          bd3 (p_X1_pushNumbers v2 xk xc xt xn la_39 str_42) <| fun xc_45 xt_46 xn_47 =>
          p_X1_readData_J169 v1 xk xo xc_45 xt_46 xn_47 xl la_39 ssp_40 sen_41 str_42 stp_43 swd rpv
        else
          if rpc = (nI 4) then
            bd8 (p_X1_readPlaces v2 xk xc xt xn xl rb la srow ssp sen str stp) <| fun xc_50 xt_51 xn_52 xl_53 la_54 ssp_55 str_56 stp_57 =>
            p_X1_readData_J169 v1 xk xo xc_50 xt_51 xn_52 xl_53 la_54 ssp_55 sen str_56 stp_57 swd rpv
          else
            if rpc = (nI 5) then
              if (xk 4) = (nI 0) then
                p_X1_readData_J128 v1 v2 v2 (nI 1) xk xo xc xt xn xl rb la srow ssp sen str stp swd rpv
              else
                p_X1_readData_J128 v1 v2 v2 (nI 0) xk xo xc xt xn xl rb la srow ssp sen str stp swd rpv
            else
              if rpc = (nI 6) then
                bd9 (p_X1_readLengths v2 xc xt xn xl rc rb la srow ssp sen str stp swd) <| fun xc_71 xt_72 xn_73 xl_74 la_75 ssp_76 str_77 stp_78 swd_79 =>
                p_X1_readData_J169 v1 xk xo xc_71 xt_72 xn_73 xl_74 la_75 ssp_76 sen str_77 stp_78 swd_79 rpv
              else
                bd8 (p_X1_readPlaces v2 xk xc xt xn xl rb la srow ssp sen str stp) <| fun xc_81 xt_82 xn_83 xl_84 la_85 ssp_86 str_87 stp_88 =>
                p_X1_readData_J169 v1 xk xo xc_81 xt_82 xn_83 xl_84 la_85 ssp_86 sen str_87 stp_88 swd rpv
def p_X1_readData (xk : Nat → Int32) (xo : Nat → Int32) (xc : Nat → Int32) (xt : Nat → Nat → Int32) (xn : Nat → Nat → Int64) (xl : Nat → Nat → Int32) (rc : Nat → Int32) (rb : Nat → Nat → Int32) (la : Nat → Nat → Int64) (srow : Option Nat) (ssp : Int32) (sen : Int32) (str : Int32) (stp : Int32) (swd : Nat → Int32) (rpv : Int32) (rpc : Int32) : Option ((Nat → Int32) × (Nat → Nat → Int32) × (Nat → Nat → Int64) × (Nat → Nat → Int32) × (Nat → Nat → Int64) × Int32 × Int32 × Int32 × Int32 × (Nat → Int32)) :=
  if (xo 4) = (nI 0) then
    p_X1_readData_J44 (xc 4) rpv xk xo xc xt xn xl rc rb la srow ssp sen str stp swd rpv rpc
  else
    bd5 (p_X1_readOwnRuns 1 rpv rb la srow ssp sen str stp) <| fun la_90 ssp_91 sen_92 str_93 stp_94 =>
    bd1 (p_X1_countOnes rpv la_90 str_93) <| fun a_96 =>
    p_X1_readData_J44 (xc 4) a_96 xk xo xc xt xn xl rc rb la_90 srow ssp_91 sen_92 str_93 stp_94 swd rpv rpc
def p_X1_readDictionary (xk : Nat → Int32) (xc : Nat → Int32) (xt : Nat → Nat → Int32) (xn : Nat → Nat → Int64) (xl : Nat → Nat → Int32) (rc : Nat → Int32) (rb : Nat → Nat → Int32) (la : Nat → Nat → Int64) (srow : Option Nat) (ssp : Int32) (sen : Int32) (str : Int32) (stp : Int32) (rdr : Int32) (rpv : Int32) : Option ((Nat → Int32) × (Nat → Nat → Int32) × (Nat → Nat → Int64) × (Nat → Nat → Int32) × (Nat → Nat → Int64) × Int32 × Int32 × Int32 × Int32) :=
  bd8 (p_X1_readPlain 5 rpv xk xc xt xn xl rc rb la srow ssp sen str stp) <| fun xc_1 xt_2 xn_3 xl_4 la_5 ssp_6 str_7 stp_8 =>
  bd1 (p_X4_isSound str_7) <| fun a_10 =>
  if a_10 = (nI 0) then
    some ((up xc_1 5 (nI 0)), xt_2, xn_3, xl_4, la_5, ssp_6, str_7, stp_8, rdr)
  else
    some (xc_1, xt_2, xn_3, xl_4, la_5, ssp_6, str_7, stp_8, (nI 1))
def p_X1_isDataCode (v1 : Int64) (xk : Nat → Int32) (rdr : Int32) : Option (Int32) :=
  if v1 = (lN 5) then
    if (xk 4) = (nI 0) then
      some ((nI 1))
    else
      if (xk 4) = (nI 1) then
        some ((nI 1))
      else
        some ((nI 0))
  else
    if v1 = (lN 6) then
      if (xk 4) = (nI 2) then
        some ((nI 1))
      else
        some ((nI 0))
    else
      if v1 = (lN 3) then
        if (xk 4) = (nI 3) then
          some ((nI 1))
        else
          some ((nI 0))
      else
        if v1 = (lN 8) then
          gd (isB rdr) <|
          some (rdr)
        else
          if v1 = (lN 0) then
            some ((nI 1))
          else
            some ((nI 0))
def p_X4_expect (v1 : Int32) (rb : Nat → Nat → Int32) (srow : Option Nat) (ssp : Int32) (sen : Int32) (str : Int32) (stp : Int32) : Option (Int32 × Int32 × Int32) :=
  bd4 (p_X4_next rb srow ssp sen str stp) <| fun a_1 ssp_2 str_3 stp_4 =>
  if a_1 = v1 then
    bd2 (p_X4_demand (nI 1) (nI 7) ssp str_3 stp_4) <| fun str_6 stp_7 =>
    some (ssp_2, str_6, stp_7)
  else
    bd2 (p_X4_demand (nI 0) (nI 7) ssp str_3 stp_4) <| fun str_9 stp_10 =>
    some (ssp_2, str_9, stp_10)
def p_X1_nextZigField (rb : Nat → Nat → Int32) (srow : Option Nat) (ssp : Int32) (sen : Int32) (str : Int32) (stp : Int32) (rzp : Int32) : Option (Int64 × Int32 × Int32 × Int32 × Int32) :=
  bd3 (p_X4_expect (nI 21) rb srow ssp sen str stp) <| fun ssp_1 str_2 stp_3 =>
  bd4 (p_X4_nextVar rb srow ssp_1 sen str_2 stp_3) <| fun a_5 ssp_6 str_7 stp_8 =>
  bd1 (p_X5_unzigged a_5) <| fun a_10 =>
  some (a_10, ssp_6, str_7, stp_8, ssp_1)
def p_X1_readHead_J371 (v5 : Int64) (v9 : Int64) (v12 : Int64) (s1 : Int32) (ssp : Int32) (str : Int32) (stp : Int32) (rzp : Int32) : Option (Int32 × Int32 × Int32 × Int32 × Int32 × Int32 × Int32 × Int32) :=
  gd (isB s1) <|
  some (ssp, (ssp + (l2i v5)), str, stp, s1, (l2i v9), (l2i v12), rzp)
def p_X1_readHead_J339 (v4 : Int32) (v5 : Int64) (v9 : Int64) (v12 : Int64) (s1 : Int32) (ssp : Int32) (sen : Int32) (str : Int32) (stp : Int32) (rpd : Int32) (rpv : Int32) (rpc : Int32) (rzp : Int32) : Option (Int32 × Int32 × Int32 × Int32 × Int32 × Int32 × Int32 × Int32) :=
  bd2 (p_X4_demand s1 (nI 1) sen str stp) <| fun str_63 stp_64 =>
  bd1 (p_X4_isSound str_63) <| fun a_66 =>
  if a_66 = (nI 0) then
    some (ssp, sen, str_63, stp_64, rpd, rpv, rpc, rzp)
  else
    if v4 = (nI 0) then
      p_X1_readHead_J371 v5 v9 v12 (nI 1) ssp str_63 stp_64 rzp
    else
      p_X1_readHead_J371 v5 v9 v12 (nI 0) ssp str_63 stp_64 rzp
def p_X1_readHead_J291 (v4 : Int32) (v5 : Int64) (v9 : Int64) (v12 : Int64) (s1 : Int32) (rb : Nat → Nat → Int32) (srow : Option Nat) (ssp : Int32) (sen : Int32) (str : Int32) (stp : Int32) (rpd : Int32) (rpv : Int32) (rpc : Int32) (rzp : Int32) : Option (Int32 × Int32 × Int32 × Int32 × Int32 × Int32 × Int32 × Int32) :=
  bd2 (p_X4_demand s1 (nI 8) rzp str stp) <| fun str_50 stp_51 =>
  bd3 (p_X4_expect (nI 0) rb srow ssp sen str_50 stp_51) <| fun ssp_53 str_54 stp_55 =>
  bd3 (p_X4_expect (nI 0) rb srow ssp_53 sen str_54 stp_55) <| fun ssp_57 str_58 stp_59 =>
  bd1 (p_X4_left ssp_57 sen) <| fun a_61 =>
  if (i2l a_61) < v5 then
    p_X1_readHead_J339 v4 v5 v9 v12 (nI 0) ssp_57 sen str_58 stp_59 rpd rpv rpc rzp
  else
    p_X1_readHead_J339 v4 v5 v9 v12 (nI 1) ssp_57 sen str_58 stp_59 rpd rpv rpc rzp
def p_X1_readHead_J246 (v4 : Int32) (v5 : Int64) (v9 : Int64) (s1 : Int32) (xk : Nat → Int32) (rb : Nat → Nat → Int32) (srow : Option Nat) (ssp : Int32) (sen : Int32) (str : Int32) (stp : Int32) (rdr : Int32) (rpd : Int32) (rpv : Int32) (rpc : Int32) (rzp : Int32) : Option (Int32 × Int32 × Int32 × Int32 × Int32 × Int32 × Int32 × Int32) :=
  bd2 (p_X4_demand s1 (nI 8) rzp str stp) <| fun str_41 stp_42 =>
  bd5 (p_X1_nextZigField rb srow ssp sen str_41 stp_42 rzp) <| fun a_44 ssp_45 str_46 stp_47 rzp_48 =>
  if v4 = (nI 0) then
    if a_44 = (lN 0) then
      p_X1_readHead_J291 v4 v5 v9 a_44 (nI 1) rb srow ssp_45 sen str_46 stp_47 rpd rpv rpc rzp_48
    else
      p_X1_readHead_J291 v4 v5 v9 a_44 (nI 0) rb srow ssp_45 sen str_46 stp_47 rpd rpv rpc rzp_48
  else
    bd1 (p_X1_isDataCode a_44 xk rdr) <| fun a_69 =>
    p_X1_readHead_J291 v4 v5 v9 a_44 a_69 rb srow ssp_45 sen str_46 stp_47 rpd rpv rpc rzp_48
def p_X1_readHead_J245 (v4 : Int32) (v5 : Int64) (v9 : Int64) (xk : Nat → Int32) (rb : Nat → Nat → Int32) (srow : Option Nat) (ssp : Int32) (sen : Int32) (str : Int32) (stp : Int32) (rdr : Int32) (rpd : Int32) (rpv : Int32) (rpc : Int32) (rzp : Int32) : Option (Int32 × Int32 × Int32 × Int32 × Int32 × Int32 × Int32 × Int32) :=
  p_X1_readHead_J246 v4 v5 v9 (nI 0) xk rb srow ssp sen str stp rdr rpd rpv rpc rzp
def p_X1_readHead_J219 (v4 : Int32) (v5 : Int64) (v9 : Int64) (s0 : Int32) (xk : Nat → Int32) (rb : Nat → Nat → Int32) (srow : Option Nat) (ssp : Int32) (sen : Int32) (str : Int32) (stp : Int32) (rdr : Int32) (rpd : Int32) (rpv : Int32) (rpc : Int32) (rzp : Int32) : Option (Int32 × Int32 × Int32 × Int32 × Int32 × Int32 × Int32 × Int32) :=
  if v9 < (lN 0) then
    p_X1_readHead_J245 v4 v5 v9 xk rb srow ssp sen str stp rdr rpd rpv rpc rzp
  else
    if (i2l s0) < v9 then
      p_X1_readHead_J245 v4 v5 v9 xk rb srow ssp sen str stp rdr rpd rpv rpc rzp
    else
      p_X1_readHead_J246 v4 v5 v9 (nI 1) xk rb srow ssp sen str stp rdr rpd rpv rpc rzp
def p_X1_readHead_J188 (v4 : Int32) (v5 : Int64) (s1 : Int32) (xk : Nat → Int32) (xc : Nat → Int32) (rb : Nat → Nat → Int32) (srow : Option Nat) (ssp : Int32) (sen : Int32) (str : Int32) (stp : Int32) (rdr : Int32) (rpd : Int32) (rpv : Int32) (rpc : Int32) (rzp : Int32) : Option (Int32 × Int32 × Int32 × Int32 × Int32 × Int32 × Int32 × Int32) :=
  bd3 (p_X4_expect s1 rb srow ssp sen str stp) <| fun ssp_31 str_32 stp_33 =>
  bd5 (p_X1_nextZigField rb srow ssp_31 sen str_32 stp_33 rzp) <| fun a_35 ssp_36 str_37 stp_38 rzp_39 =>
  if v4 = (nI 0) then
    p_X1_readHead_J219 v4 v5 a_35 (nI 200) xk rb srow ssp_36 sen str_37 stp_38 rdr rpd rpv rpc rzp_39
  else
    p_X1_readHead_J219 v4 v5 a_35 ((nI 200) - (xc 4)) xk rb srow ssp_36 sen str_37 stp_38 rdr rpd rpv rpc rzp_39
def p_X1_readHead_J163 (v4 : Int32) (v5 : Int64) (s1 : Int32) (xk : Nat → Int32) (xc : Nat → Int32) (rb : Nat → Nat → Int32) (srow : Option Nat) (ssp : Int32) (sen : Int32) (str : Int32) (stp : Int32) (rdr : Int32) (rpd : Int32) (rpv : Int32) (rpc : Int32) (rzp : Int32) : Option (Int32 × Int32 × Int32 × Int32 × Int32 × Int32 × Int32 × Int32) :=
  bd2 (p_X4_demand s1 (nI 8) rzp str stp) <| fun str_28 stp_29 =>
  if v4 = (nI 0) then
    p_X1_readHead_J188 v4 v5 (nI 76) xk xc rb srow ssp sen str_28 stp_29 rdr rpd rpv rpc rzp
  else
    p_X1_readHead_J188 v4 v5 (nI 44) xk xc rb srow ssp sen str_28 stp_29 rdr rpd rpv rpc rzp
def p_X1_readHead_J131 (v4 : Int32) (v5 : Int64) (s1 : Int32) (xk : Nat → Int32) (xc : Nat → Int32) (rb : Nat → Nat → Int32) (srow : Option Nat) (ssp : Int32) (sen : Int32) (str : Int32) (stp : Int32) (rdr : Int32) (rpd : Int32) (rpv : Int32) (rpc : Int32) (rzp : Int32) : Option (Int32 × Int32 × Int32 × Int32 × Int32 × Int32 × Int32 × Int32) :=
  bd2 (p_X4_demand s1 (nI 8) rzp str stp) <| fun str_19 stp_20 =>
  bd5 (p_X1_nextZigField rb srow ssp sen str_19 stp_20 rzp) <| fun a_22 ssp_23 str_24 stp_25 rzp_26 =>
  if a_22 = v5 then
    p_X1_readHead_J163 v4 v5 (nI 1) xk xc rb srow ssp_23 sen str_24 stp_25 rdr rpd rpv rpc rzp_26
  else
    p_X1_readHead_J163 v4 v5 (nI 0) xk xc rb srow ssp_23 sen str_24 stp_25 rdr rpd rpv rpc rzp_26
def p_X1_readHead_J130 (v4 : Int32) (v5 : Int64) (xk : Nat → Int32) (xc : Nat → Int32) (rb : Nat → Nat → Int32) (srow : Option Nat) (ssp : Int32) (sen : Int32) (str : Int32) (stp : Int32) (rdr : Int32) (rpd : Int32) (rpv : Int32) (rpc : Int32) (rzp : Int32) : Option (Int32 × Int32 × Int32 × Int32 × Int32 × Int32 × Int32 × Int32) :=
  p_X1_readHead_J131 v4 v5 (nI 0) xk xc rb srow ssp sen str stp rdr rpd rpv rpc rzp
def p_X1_readHead_J89 (v1 : Int32) (v4 : Int32) (s1 : Int32) (xk : Nat → Int32) (xc : Nat → Int32) (rb : Nat → Nat → Int32) (srow : Option Nat) (ssp : Int32) (sen : Int32) (str : Int32) (stp : Int32) (rdr : Int32) (rpd : Int32) (rpv : Int32) (rpc : Int32) (rzp : Int32) : Option (Int32 × Int32 × Int32 × Int32 × Int32 × Int32 × Int32 × Int32) :=
  bd2 (p_X4_demand s1 (nI 9) v1 str stp) <| fun str_10 stp_11 =>
  bd5 (p_X1_nextZigField rb srow ssp sen str_10 stp_11 rzp) <| fun a_13 ssp_14 str_15 stp_16 rzp_17 =>
  if a_13 < (lN 0) then
    p_X1_readHead_J130 v4 a_13 xk xc rb srow ssp_14 sen str_15 stp_16 rdr rpd rpv rpc rzp_17
  else
    bd1 (p_X4_left ssp_14 sen) <| fun a_71 =>
    if (i2l a_71) < a_13 then
      p_X1_readHead_J130 v4 a_13 xk xc rb srow ssp_14 sen str_15 stp_16 rdr rpd rpv rpc rzp_17
    else
      p_X1_readHead_J131 v4 a_13 (nI 1) xk xc rb srow ssp_14 sen str_15 stp_16 rdr rpd rpv rpc rzp_17
def p_X1_readHead_J84 (v1 : Int32) (v4 : Int32) (xk : Nat → Int32) (xc : Nat → Int32) (rb : Nat → Nat → Int32) (srow : Option Nat) (ssp : Int32) (sen : Int32) (str : Int32) (stp : Int32) (rdr : Int32) (rpd : Int32) (rpv : Int32) (rpc : Int32) (rzp : Int32) : Option (Int32 × Int32 × Int32 × Int32 × Int32 × Int32 × Int32 × Int32) :=
  p_X1_readHead_J89 v1 v4 (nI 1) xk xc rb srow ssp sen str stp rdr rpd rpv rpc rzp
def p_X1_readHead_J59 (v1 : Int32) (v4 : Int32) (s1 : Int32) (xk : Nat → Int32) (xc : Nat → Int32) (rb : Nat → Nat → Int32) (srow : Option Nat) (ssp : Int32) (sen : Int32) (str : Int32) (stp : Int32) (rwp : Int32) (rdr : Int32) (rpd : Int32) (rpv : Int32) (rpc : Int32) (rzp : Int32) : Option (Int32 × Int32 × Int32 × Int32 × Int32 × Int32 × Int32 × Int32) :=
  bd2 (p_X4_demand s1 (nI 8) rzp str stp) <| fun str_7 stp_8 =>
  if v4 = (nI 0) then
    if rwp = (nI 0) then
      p_X1_readHead_J84 v1 v4 xk xc rb srow ssp sen str_7 stp_8 rdr rpd rpv rpc rzp
    else
      p_X1_readHead_J89 v1 v4 (nI 0) xk xc rb srow ssp sen str_7 stp_8 rdr rpd rpv rpc rzp
  else
    p_X1_readHead_J84 v1 v4 xk xc rb srow ssp sen str_7 stp_8 rdr rpd rpv rpc rzp
def p_X1_readHead_J58 (v1 : Int32) (v4 : Int32) (xk : Nat → Int32) (xc : Nat → Int32) (rb : Nat → Nat → Int32) (srow : Option Nat) (ssp : Int32) (sen : Int32) (str : Int32) (stp : Int32) (rwp : Int32) (rdr : Int32) (rpd : Int32) (rpv : Int32) (rpc : Int32) (rzp : Int32) : Option (Int32 × Int32 × Int32 × Int32 × Int32 × Int32 × Int32 × Int32) :=
  p_X1_readHead_J59 v1 v4 (nI 0) xk xc rb srow ssp sen str stp rwp rdr rpd rpv rpc rzp
def p_X1_readHead_J54 (v1 : Int32) (v4 : Int32) (xk : Nat → Int32) (xc : Nat → Int32) (rb : Nat → Nat → Int32) (srow : Option Nat) (ssp : Int32) (sen : Int32) (str : Int32) (stp : Int32) (rwp : Int32) (rdr : Int32) (rpd : Int32) (rpv : Int32) (rpc : Int32) (rzp : Int32) : Option (Int32 × Int32 × Int32 × Int32 × Int32 × Int32 × Int32 × Int32) :=
  p_X1_readHead_J59 v1 v4 (nI 1) xk xc rb srow ssp sen str stp rwp rdr rpd rpv rpc rzp
def p_X1_readHead_J24 (v1 : Int32) (v2 : Int64) (s0 : Int32) (xk : Nat → Int32) (xc : Nat → Int32) (rb : Nat → Nat → Int32) (srow : Option Nat) (ssp : Int32) (sen : Int32) (str : Int32) (stp : Int32) (rwp : Int32) (rdr : Int32) (rpd : Int32) (rpv : Int32) (rpc : Int32) (rzp : Int32) : Option (Int32 × Int32 × Int32 × Int32 × Int32 × Int32 × Int32 × Int32) :=
  if s0 = (nI 0) then
    if v2 = (lN 2) then
      if (xk 4) = (nI 3) then
        p_X1_readHead_J58 v1 s0 xk xc rb srow ssp sen str stp rwp rdr rpd rpv rpc rzp
      else
        p_X1_readHead_J54 v1 s0 xk xc rb srow ssp sen str stp rwp rdr rpd rpv rpc rzp
    else
      p_X1_readHead_J58 v1 s0 xk xc rb srow ssp sen str stp rwp rdr rpd rpv rpc rzp
  else
    p_X1_readHead_J54 v1 s0 xk xc rb srow ssp sen str stp rwp rdr rpd rpv rpc rzp
def p_X1_readHead (xk : Nat → Int32) (xc : Nat → Int32) (rb : Nat → Nat → Int32) (srow : Option Nat) (ssp : Int32) (sen : Int32) (str : Int32) (stp : Int32) (rwp : Int32) (rdr : Int32) (rpd : Int32) (rpv : Int32) (rpc : Int32) (rzp : Int32) : Option (Int32 × Int32 × Int32 × Int32 × Int32 × Int32 × Int32 × Int32) :=
  bd5 (p_X1_nextZigField rb srow ssp sen str stp rzp) <| fun a_1 ssp_2 str_3 stp_4 rzp_5 =>
  if a_1 = (lN 0) then
    p_X1_readHead_J24 ssp a_1 (nI 1) xk xc rb srow ssp_2 sen str_3 stp_4 rwp rdr rpd rpv rpc rzp_5
  else
    p_X1_readHead_J24 ssp a_1 (nI 0) xk xc rb srow ssp_2 sen str_3 stp_4 rwp rdr rpd rpv rpc rzp_5
def p_X4_begin (v1 : Nat) (rc : Nat → Int32) (srow : Option Nat) (ssp : Int32) (sen : Int32) (str : Int32) (stp : Int32) : Option ((Option Nat) × Int32 × Int32 × Int32 × Int32) :=
  some ((some v1), (nI 0), (rc v1), (nI 0), (nI 0))
def p_X1_readPages_J136 (v1 : Nat) (v4 : Int32) (s1 : Int32) (s2 : Int32) (xc : Nat → Int32) (xt : Nat → Nat → Int32) (xn : Nat → Nat → Int64) (xl : Nat → Nat → Int32) (rc : Nat → Int32) (la : Nat → Nat → Int64) (ssp : Int32) (str : Int32) (stp : Int32) (swd : Nat → Int32) (rdr : Int32) (rpd : Int32) (rpv : Int32) (rpc : Int32) (rzp : Int32) (k39 : Int32 → (Nat → Int32) → (Nat → Nat → Int32) → (Nat → Nat → Int64) → (Nat → Nat → Int32) → (Nat → Nat → Int64) → Int32 → Int32 → Int32 → Int32 → (Nat → Int32) → Int32 → Int32 → Int32 → Int32 → Int32 → Int32 → Option ((Nat → Int32) × (Nat → Int32) × (Nat → Int32) × (Nat → Nat → Int32) × (Nat → Nat → Int64) × (Nat → Nat → Int32) × (Nat → Nat → Int64) × (Option Nat) × Int32 × Int32 × Int32 × Int32 × (Nat → Int32) × Int32 × Int32 × Int32 × Int32 × Int32 × Int32)) : Option ((Nat → Int32) × (Nat → Int32) × (Nat → Int32) × (Nat → Nat → Int32) × (Nat → Nat → Int64) × (Nat → Nat → Int32) × (Nat → Nat → Int64) × (Option Nat) × Int32 × Int32 × Int32 × Int32 × (Nat → Int32) × Int32 × Int32 × Int32 × Int32 × Int32 × Int32) :=
  k39 (v4 + (nI 1)) xc xt xn xl la ssp (rc v1) str stp swd (s1 + s2) rdr rpd rpv rpc rzp
def p_X1_readPages_J109 (v1 : Nat) (v4 : Int32) (xc : Nat → Int32) (xt : Nat → Nat → Int32) (xn : Nat → Nat → Int64) (xl : Nat → Nat → Int32) (rc : Nat → Int32) (la : Nat → Nat → Int64) (ssp : Int32) (sen : Int32) (str : Int32) (stp : Int32) (swd : Nat → Int32) (rwp : Int32) (rdr : Int32) (rpd : Int32) (rpv : Int32) (rpc : Int32) (rzp : Int32) (k39 : Int32 → (Nat → Int32) → (Nat → Nat → Int32) → (Nat → Nat → Int64) → (Nat → Nat → Int32) → (Nat → Nat → Int64) → Int32 → Int32 → Int32 → Int32 → (Nat → Int32) → Int32 → Int32 → Int32 → Int32 → Int32 → Int32 → Option ((Nat → Int32) × (Nat → Int32) × (Nat → Int32) × (Nat → Nat → Int32) × (Nat → Nat → Int64) × (Nat → Nat → Int32) × (Nat → Nat → Int64) × (Option Nat) × Int32 × Int32 × Int32 × Int32 × (Nat → Int32) × Int32 × Int32 × Int32 × Int32 × Int32 × Int32)) : Option ((Nat → Int32) × (Nat → Int32) × (Nat → Int32) × (Nat → Nat → Int32) × (Nat → Nat → Int64) × (Nat → Nat → Int32) × (Nat → Nat → Int64) × (Option Nat) × Int32 × Int32 × Int32 × Int32 × (Nat → Int32) × Int32 × Int32 × Int32 × Int32 × Int32 × Int32) :=
  bd2 (p_X4_demandNothingLeft ssp sen str stp) <| fun str_32 stp_33 =>
  bd1 (p_X4_isSound str_32) <| fun a_35 =>
  if a_35 = (nI 0) then
    p_X1_readPages_J136 v1 v4 rwp (nI 0) xc xt xn xl rc la ssp str_32 stp_33 swd rdr rpd rpv rpc rzp k39
  else
    p_X1_readPages_J136 v1 v4 rwp (nI 1) xc xt xn xl rc la ssp str_32 stp_33 swd rdr rpd rpv rpc rzp k39
def p_X1_readPages_J95 (v1 : Nat) (v4 : Int32) (xk : Nat → Int32) (xo : Nat → Int32) (xc : Nat → Int32) (xt : Nat → Nat → Int32) (xn : Nat → Nat → Int64) (xl : Nat → Nat → Int32) (rc : Nat → Int32) (rb : Nat → Nat → Int32) (la : Nat → Nat → Int64) (srow : Option Nat) (ssp : Int32) (sen : Int32) (str : Int32) (stp : Int32) (swd : Nat → Int32) (rwp : Int32) (rdr : Int32) (rpd : Int32) (rpv : Int32) (rpc : Int32) (rzp : Int32) (k39 : Int32 → (Nat → Int32) → (Nat → Nat → Int32) → (Nat → Nat → Int64) → (Nat → Nat → Int32) → (Nat → Nat → Int64) → Int32 → Int32 → Int32 → Int32 → (Nat → Int32) → Int32 → Int32 → Int32 → Int32 → Int32 → Int32 → Option ((Nat → Int32) × (Nat → Int32) × (Nat → Int32) × (Nat → Nat → Int32) × (Nat → Nat → Int64) × (Nat → Nat → Int32) × (Nat → Nat → Int64) × (Option Nat) × Int32 × Int32 × Int32 × Int32 × (Nat → Int32) × Int32 × Int32 × Int32 × Int32 × Int32 × Int32)) : Option ((Nat → Int32) × (Nat → Int32) × (Nat → Int32) × (Nat → Nat → Int32) × (Nat → Nat → Int64) × (Nat → Nat → Int32) × (Nat → Nat → Int64) × (Option Nat) × Int32 × Int32 × Int32 × Int32 × (Nat → Int32) × Int32 × Int32 × Int32 × Int32 × Int32 × Int32) :=
  bd1 (p_X4_isSound str) <| fun a_30 =>
  if a_30 = (nI 0) then
    p_X1_readPages_J109 v1 v4 xc xt xn xl rc la ssp sen str stp swd rwp rdr rpd rpv rpc rzp k39
  else
    bd10 (p_X1_readData xk xo xc xt xn xl rc rb la srow ssp sen str stp swd rpv rpc) <| fun xc_37 xt_38 xn_39 xl_40 la_41 ssp_42 sen_43 str_44 stp_45 swd_46 =>
    p_X1_readPages_J109 v1 v4 xc_37 xt_38 xn_39 xl_40 rc la_41 ssp_42 sen_43 str_44 stp_45 swd_46 rwp rdr rpd rpv rpc rzp k39
def p_X1_readPages_L39 (v1 : Nat) (xk : Nat → Int32) (xo : Nat → Int32) (rc : Nat → Int32) (rb : Nat → Nat → Int32) (srow : Option Nat) (k39 : Int32 → (Nat → Int32) → (Nat → Nat → Int32) → (Nat → Nat → Int64) → (Nat → Nat → Int32) → (Nat → Nat → Int64) → Int32 → Int32 → Int32 → Int32 → (Nat → Int32) → Int32 → Int32 → Int32 → Int32 → Int32 → Int32 → Option ((Nat → Int32) × (Nat → Int32) × (Nat → Int32) × (Nat → Nat → Int32) × (Nat → Nat → Int64) × (Nat → Nat → Int32) × (Nat → Nat → Int64) × (Option Nat) × Int32 × Int32 × Int32 × Int32 × (Nat → Int32) × Int32 × Int32 × Int32 × Int32 × Int32 × Int32)) (v4 : Int32) (xc : Nat → Int32) (xt : Nat → Nat → Int32) (xn : Nat → Nat → Int64) (xl : Nat → Nat → Int32) (la : Nat → Nat → Int64) (ssp : Int32) (sen : Int32) (str : Int32) (stp : Int32) (swd : Nat → Int32) (rwp : Int32) (rdr : Int32) (rpd : Int32) (rpv : Int32) (rpc : Int32) (rzp : Int32) : Option ((Nat → Int32) × (Nat → Int32) × (Nat → Int32) × (Nat → Nat → Int32) × (Nat → Nat → Int64) × (Nat → Nat → Int32) × (Nat → Nat → Int64) × (Option Nat) × Int32 × Int32 × Int32 × Int32 × (Nat → Int32) × Int32 × Int32 × Int32 × Int32 × Int32 × Int32) :=
  if v4 < (nI 12000) then
    bd1 (p_X4_isSound str) <| fun a_15 =>
    if a_15 = (nI 0) then
      some (xk, xo, xc, xt, xn, xl, la, srow, ssp, sen, str, stp, swd, rwp, rdr, rpd, rpv, rpc, rzp)
    else
      bd1 (p_X4_left ssp sen) <| fun a_17 =>
      if (nI 0) < a_17 then
        bd8 (p_X1_readHead xk xc rb srow ssp sen str stp rwp rdr rpd rpv rpc rzp) <| fun ssp_19 sen_20 str_21 stp_22 rpd_23 rpv_24 rpc_25 rzp_26 =>
        bd1 (p_X4_isSound str_21) <| fun a_28 =>
        if a_28 = (nI 0) then
          p_X1_readPages_J95 v1 v4 xk xo xc xt xn xl rc rb la srow ssp_19 sen_20 str_21 stp_22 swd rwp rdr rpd_23 rpv_24 rpc_25 rzp_26 k39
        else
          if rpd_23 = (nI 0) then
            p_X1_readPages_J95 v1 v4 xk xo xc xt xn xl rc rb la srow ssp_19 sen_20 str_21 stp_22 swd rwp rdr rpd_23 rpv_24 rpc_25 rzp_26 k39
          else
            bd9 (p_X1_readDictionary xk xc xt xn xl rc rb la srow ssp_19 sen_20 str_21 stp_22 rdr rpv_24) <| fun xc_48 xt_49 xn_50 xl_51 la_52 ssp_53 str_54 stp_55 rdr_56 =>
            p_X1_readPages_J109 v1 v4 xc_48 xt_49 xn_50 xl_51 rc la_52 ssp_53 sen_20 str_54 stp_55 swd rwp rdr_56 rpd_23 rpv_24 rpc_25 rzp_26 k39
      else
        some (xk, xo, xc, xt, xn, xl, la, srow, ssp, sen, str, stp, swd, rwp, rdr, rpd, rpv, rpc, rzp)
  else
    some (xk, xo, xc, xt, xn, xl, la, srow, ssp, sen, str, stp, swd, rwp, rdr, rpd, rpv, rpc, rzp)
def p_X1_readPages (v1 : Nat) (v2 : Int32) (v3 : Int32) (xk : Nat → Int32) (xo : Nat → Int32) (xc : Nat → Int32) (xt : Nat → Nat → Int32) (xn : Nat → Nat → Int64) (xl : Nat → Nat → Int32) (rc : Nat → Int32) (rb : Nat → Nat → Int32) (la : Nat → Nat → Int64) (srow : Option Nat) (ssp : Int32) (sen : Int32) (str : Int32) (stp : Int32) (swd : Nat → Int32) (rwp : Int32) (rdr : Int32) (rpd : Int32) (rpv : Int32) (rpc : Int32) (rzp : Int32) : Option ((Nat → Int32) × (Nat → Int32) × (Nat → Int32) × (Nat → Nat → Int32) × (Nat → Nat → Int64) × (Nat → Nat → Int32) × (Nat → Nat → Int64) × (Option Nat) × Int32 × Int32 × Int32 × Int32 × (Nat → Int32) × Int32 × Int32 × Int32 × Int32 × Int32 × Int32) :=
  bd5 (p_X4_begin v1 rc srow ssp sen str stp) <| fun srow_1 ssp_2 sen_3 str_4 stp_5 =>
  bd3 (p_X0_begin 4 v2 v3 xk xo xc) <| fun xk_7 xo_8 xc_9 =>
  bd3 (p_X0_begin 5 v2 (nI 0) xk_7 xo_8 xc_9) <| fun xk_11 xo_12 xc_13 =>
  itr17 (p_X1_readPages_L39 v1 xk_11 xo_12 rc rb srow_1 ) fu (nI 0) xc_13 xt xn xl la ssp_2 sen_3 str_4 stp_5 swd (nI 0) (nI 0) rpd rpv rpc rzp
def p_X2_codeOf (v0 : Int32) (v1 : Int32) : Option (Int32) :=
  if v1 = (nI 0) then
    some ((nI 0))
  else
    if v1 = (nI 1) then
      some ((nI 8))
    else
      if v0 = (nI 2) then
        some ((nI 6))
      else
        if v0 = (nI 3) then
          some ((nI 3))
        else
          some ((nI 5))
def p_X2_chooseThere_L8 (v1 : Nat) (v3 : Int32) (xt : Nat → Nat → Int32) (k8 : Int32 → (Nat → Int32) → Int32 → Option ((Nat → Int32) × Int32)) (v4 : Int32) (wch : Nat → Int32) (wcc : Int32) : Option ((Nat → Int32) × Int32) :=
  if v4 < v3 then
    bd1 (p_X0_isThere v1 v4 xt) <| fun a_1 =>
    if a_1 = (nI 0) then
      k8 (v4 + (nI 1)) wch wcc
    else
      if wcc < (nI 0) then
        k8 (v4 + (nI 1)) wch wcc
      else
        if wcc < (nI 200) then
          gd (inb wcc 200) <|
          k8 (v4 + (nI 1)) (up wch (ix wcc) v4) (wcc + (nI 1))
        else
          k8 (v4 + (nI 1)) wch wcc
  else
    some (wch, wcc)
def p_X2_chooseThere (v1 : Nat) (v2 : Int32) (v3 : Int32) (xt : Nat → Nat → Int32) (wch : Nat → Int32) (wcc : Int32) : Option ((Nat → Int32) × Int32) :=
  itr3 (p_X2_chooseThere_L8 v1 v3 xt ) fu v2 wch (nI 0)
def p_X2_gatherLevels_L3 (v1 : Nat) (v2 : Int32) (v3 : Int32) (xt : Nat → Nat → Int32) (k3 : Int32 → (Nat → Nat → Int64) → Option ((Nat → Nat → Int64))) (v4 : Int32) (la : Nat → Nat → Int64) : Option ((Nat → Nat → Int64)) :=
  if v4 < (nI 0) then
    some (la)
  else
    if v4 < v3 then
      if (v4 - v2) < (nI 200) then
        bd1 (p_X0_isThere v1 v4 xt) <| fun a_1 =>
        if a_1 = (nI 0) then
          gd (inb (v4 - v2) 200) <|
          k3 (v4 + (nI 1)) (up la 0 (up (la 0) (ix (v4 - v2)) (lN 0)))
        else
          gd (inb (v4 - v2) 200) <|
          k3 (v4 + (nI 1)) (up la 0 (up (la 0) (ix (v4 - v2)) (lN 1)))
      else
        some (la)
    else
      some (la)
def p_X2_gatherLevels (v1 : Nat) (v2 : Int32) (v3 : Int32) (xt : Nat → Nat → Int32) (la : Nat → Nat → Int64) : Option ((Nat → Nat → Int64)) :=
  itr2 (p_X2_gatherLevels_L3 v1 v2 v3 xt ) fu v2 la
def p_X2_gatherNumbers_L2 (v1 : Nat) (xn : Nat → Nat → Int64) (wch : Nat → Int32) (wcc : Int32) (k2 : Int32 → (Nat → Nat → Int64) → Option ((Nat → Nat → Int64))) (v2 : Int32) (la : Nat → Nat → Int64) : Option ((Nat → Nat → Int64)) :=
  if v2 < wcc then
    if v2 < (nI 200) then
      if v2 < (nI 200) then
        gd (inb v2 200) <|
        bd1 (p_X0_numberAt v1 (wch (ix v2)) xn) <| fun a_2 =>
        gd (inb v2 200) <|
        k2 (v2 + (nI 1)) (up la 0 (up (la 0) (ix v2) a_2))
      else
        some (la)
    else
      some (la)
  else
    some (la)
def p_X2_gatherNumbers (v1 : Nat) (xn : Nat → Nat → Int64) (la : Nat → Nat → Int64) (wch : Nat → Int32) (wcc : Int32) : Option ((Nat → Nat → Int64)) :=
  itr2 (p_X2_gatherNumbers_L2 v1 xn wch wcc ) fu (nI 0) la
def p_X3_push (v0 : Nat) (v1 : Int32) (rc : Nat → Int32) (rv : Nat → Int32) (rb : Nat → Nat → Int32) : Option ((Nat → Int32) × (Nat → Int32) × (Nat → Nat → Int32)) :=
  if (rc v0) < (nI 0) then
    some (rc, (up rv v0 (nI 1)), rb)
  else
    if (rc v0) < (nI (rlen v0)) then
      gd (inb (rc v0) (rlen v0)) <|
      some ((up rc v0 ((rc v0) + (nI 1))), rv, (up rb v0 (up (rb v0) (ix (rc v0)) (b8 v1))))
    else
      some (rc, (up rv v0 (nI 1)), rb)
def p_X2_pushLetters_L9 (v1 : Nat) (v2 : Int32) (v3 : Int64) (xl : Nat → Nat → Int32) (k9 : Int32 → (Nat → Int32) → (Nat → Int32) → (Nat → Nat → Int32) → Option ((Nat → Int32) × (Nat → Int32) × (Nat → Nat → Int32))) (v5 : Int32) (rc : Nat → Int32) (rv : Nat → Int32) (rb : Nat → Nat → Int32) : Option ((Nat → Int32) × (Nat → Int32) × (Nat → Nat → Int32)) :=
  if v5 < (nI 40) then
    if (i2l v5) < v3 then
      bd1 (p_X0_letterAt v1 v2 v5 xl) <| fun a_3 =>
      bd3 (p_X3_push 3 a_3 rc rv rb) <| fun rc_5 rv_6 rb_7 =>
      k9 (v5 + (nI 1)) rc_5 rv_6 rb_7
    else
      some (rc, rv, rb)
  else
    some (rc, rv, rb)
def p_X2_pushLetters (v1 : Nat) (v2 : Int32) (xn : Nat → Nat → Int64) (xl : Nat → Nat → Int32) (rc : Nat → Int32) (rv : Nat → Int32) (rb : Nat → Nat → Int32) : Option ((Nat → Int32) × (Nat → Int32) × (Nat → Nat → Int32)) :=
  bd1 (p_X0_numberAt v1 v2 xn) <| fun a_1 =>
  itr4 (p_X2_pushLetters_L9 v1 v2 a_1 xl ) fu (nI 0) rc rv rb
def p_X2_pushAllLetters_L2 (v1 : Nat) (xn : Nat → Nat → Int64) (xl : Nat → Nat → Int32) (wch : Nat → Int32) (wcc : Int32) (k2 : Int32 → (Nat → Int32) → (Nat → Int32) → (Nat → Nat → Int32) → Option ((Nat → Int32) × (Nat → Int32) × (Nat → Nat → Int32))) (v2 : Int32) (rc : Nat → Int32) (rv : Nat → Int32) (rb : Nat → Nat → Int32) : Option ((Nat → Int32) × (Nat → Int32) × (Nat → Nat → Int32)) :=
  if v2 < wcc then
    if v2 < (nI 200) then
      gd (inb v2 200) <|
      bd3 (p_X2_pushLetters v1 (wch (ix v2)) xn xl rc rv rb) <| fun rc_2 rv_3 rb_4 =>
      k2 (v2 + (nI 1)) rc_2 rv_3 rb_4
    else
      some (rc, rv, rb)
  else
    some (rc, rv, rb)
def p_X2_pushAllLetters (v1 : Nat) (xn : Nat → Nat → Int64) (xl : Nat → Nat → Int32) (rc : Nat → Int32) (rv : Nat → Int32) (rb : Nat → Nat → Int32) (wch : Nat → Int32) (wcc : Int32) : Option ((Nat → Int32) × (Nat → Int32) × (Nat → Nat → Int32)) :=
  itr4 (p_X2_pushAllLetters_L2 v1 xn xl wch wcc ) fu (nI 0) rc rv rb
def p_X3_pushVar_L5 (v0 : Nat) (k5 : Int64 → Int32 → (Nat → Int32) → (Nat → Int32) → (Nat → Nat → Int32) → Option ((Nat → Int32) × (Nat → Int32) × (Nat → Nat → Int32))) (v3 : Int64) (v5 : Int32) (rc : Nat → Int32) (rv : Nat → Int32) (rb : Nat → Nat → Int32) : Option ((Nat → Int32) × (Nat → Int32) × (Nat → Nat → Int32)) :=
  if v5 < (nI 9) then
    if (lushr v3 (nI 7)) = (lN 0) then
      bd3 (p_X3_push v0 (l2i v3) rc rv rb) <| fun rc_1 rv_2 rb_3 =>
      some (rc_1, rv_2, rb_3)
    else
      bd3 (p_X3_push v0 ((l2i (v3 &&& (lN 127))) + (nI 128)) rc rv rb) <| fun rc_5 rv_6 rb_7 =>
      k5 (lushr v3 (nI 7)) (v5 + (nI 1)) rc_5 rv_6 rb_7
  else
    bd3 (p_X3_push v0 (l2i v3) rc rv rb) <| fun rc_9 rv_10 rb_11 =>
    some (rc_9, rv_10, rb_11)
def p_X3_pushVar (v0 : Nat) (v1 : Int64) (rc : Nat → Int32) (rv : Nat → Int32) (rb : Nat → Nat → Int32) : Option ((Nat → Int32) × (Nat → Int32) × (Nat → Nat → Int32)) :=
  itr5 (p_X3_pushVar_L5 v0 ) fu v1 (nI 0) rc rv rb
def p_X5_zigged (v0 : Int64) : Option (Int64) :=
  some (((lshl v0 (nI 1)) ^^^ (lshr v0 (nI 63))))
def p_X2_pushHead_J90 (v2 : Int32) (v3 : Int32) (s1 : Int32) (rc : Nat → Int32) (rv : Nat → Int32) (rb : Nat → Nat → Int32) : Option ((Nat → Int32) × (Nat → Int32) × (Nat → Nat → Int32)) :=
  bd3 (p_X3_push 2 s1 rc rv rb) <| fun rc_31 rv_32 rb_33 =>
  bd3 (p_X3_push 2 (nI 21) rc_31 rv_32 rb_33) <| fun rc_35 rv_36 rb_37 =>
  bd1 (p_X5_zigged (i2l v2)) <| fun a_39 =>
  bd3 (p_X3_pushVar 2 a_39 rc_35 rv_36 rb_37) <| fun rc_41 rv_42 rb_43 =>
  bd3 (p_X3_push 2 (nI 21) rc_41 rv_42 rb_43) <| fun rc_45 rv_46 rb_47 =>
  bd1 (p_X5_zigged (i2l v3)) <| fun a_49 =>
  bd3 (p_X3_pushVar 2 a_49 rc_45 rv_46 rb_47) <| fun rc_51 rv_52 rb_53 =>
  bd3 (p_X3_push 2 (nI 0) rc_51 rv_52 rb_53) <| fun rc_55 rv_56 rb_57 =>
  bd3 (p_X3_push 2 (nI 0) rc_55 rv_56 rb_57) <| fun rc_59 rv_60 rb_61 =>
  some (rc_59, rv_60, rb_61)
def p_X2_pushHead (v1 : Int32) (v2 : Int32) (v3 : Int32) (rc : Nat → Int32) (rv : Nat → Int32) (rb : Nat → Nat → Int32) : Option ((Nat → Int32) × (Nat → Int32) × (Nat → Nat → Int32)) :=
  bd3 (p_X3_push 2 (nI 21) rc rv rb) <| fun rc_1 rv_2 rb_3 =>
  bd1 (p_X5_zigged (i2l v1)) <| fun a_5 =>
  bd3 (p_X3_pushVar 2 a_5 rc_1 rv_2 rb_3) <| fun rc_7 rv_8 rb_9 =>
  bd3 (p_X3_push 2 (nI 21) rc_7 rv_8 rb_9) <| fun rc_11 rv_12 rb_13 =>
  bd1 (p_X5_zigged (i2l (rc_11 3))) <| fun a_15 =>
  bd3 (p_X3_pushVar 2 a_15 rc_11 rv_12 rb_13) <| fun rc_17 rv_18 rb_19 =>
  bd3 (p_X3_push 2 (nI 21) rc_17 rv_18 rb_19) <| fun rc_21 rv_22 rb_23 =>
  bd1 (p_X5_zigged (i2l (rc_21 3))) <| fun a_25 =>
  bd3 (p_X3_pushVar 2 a_25 rc_21 rv_22 rb_23) <| fun rc_27 rv_28 rb_29 =>
  if v1 = (nI 0) then
    p_X2_pushHead_J90 v2 v3 (nI 44) rc_27 rv_28 rb_29
  else
    p_X2_pushHead_J90 v2 v3 (nI 76) rc_27 rv_28 rb_29
def p_X3_pushLittle_L3 (v0 : Nat) (v1 : Int64) (v3 : Int32) (k3 : Int32 → (Nat → Int32) → (Nat → Int32) → (Nat → Nat → Int32) → Option ((Nat → Int32) × (Nat → Int32) × (Nat → Nat → Int32))) (v4 : Int32) (rc : Nat → Int32) (rv : Nat → Int32) (rb : Nat → Nat → Int32) : Option ((Nat → Int32) × (Nat → Int32) × (Nat → Nat → Int32)) :=
  if v4 < v3 then
    bd3 (p_X3_push v0 (l2i (lushr v1 ((nI 8) * v4))) rc rv rb) <| fun rc_1 rv_2 rb_3 =>
    k3 (v4 + (nI 1)) rc_1 rv_2 rb_3
  else
    some (rc, rv, rb)
def p_X3_pushLittle (v0 : Nat) (v1 : Int64) (v3 : Int32) (rc : Nat → Int32) (rv : Nat → Int32) (rb : Nat → Nat → Int32) : Option ((Nat → Int32) × (Nat → Int32) × (Nat → Nat → Int32)) :=
  itr4 (p_X3_pushLittle_L3 v0 v1 v3 ) fu (nI 0) rc rv rb
def p_X3_equalFrom_L4 (v0 : Nat) (v1 : Int32) (v2 : Int32) (la : Nat → Nat → Int64) (k4 : Int32 → Option (Int32)) (v3 : Int32) : Option (Int32) :=
  if v1 < (nI 0) then
    some ((v3 - v1))
  else
    if v3 < v2 then
      if v3 < (nI 200) then
        gd (inb v3 200) <|
        gd (inb v1 200) <|
        if (la v0 (ix v3)) = (la v0 (ix v1)) then
          k4 (v3 + (nI 1))
        else
          some ((v3 - v1))
      else
        some ((v3 - v1))
    else
      some ((v3 - v1))
def p_X3_equalFrom (v0 : Nat) (v1 : Int32) (v2 : Int32) (la : Nat → Nat → Int64) : Option (Int32) :=
  itr1 (p_X3_equalFrom_L4 v0 v1 v2 la ) fu (v1 + (nI 1))
def p_X3_groupsEnd_L5 (v0 : Nat) (v2 : Int32) (la : Nat → Nat → Int64) (k5 : Int32 → Option (Int32)) (v3 : Int32) : Option (Int32) :=
  if v3 < v2 then
    bd1 (p_X3_equalFrom v0 v3 v2 la) <| fun a_1 =>
    if a_1 < (nI 8) then
      k5 (v3 + (nI 8))
    else
      some ((imin v3 v2))
  else
    some ((imin v3 v2))
def p_X3_groupsEnd (v0 : Nat) (v1 : Int32) (v2 : Int32) (la : Nat → Nat → Int64) : Option (Int32) :=
  itr1 (p_X3_groupsEnd_L5 v0 v2 la ) fu (v1 + (nI 8))
def p_X3_pushPacked_L49 (v0 : Nat) (v5 : Int32) (v9 : Int64) (k100 : Int32 → Int32 → (Nat → Int32) → (Nat → Int32) → (Nat → Nat → Int32) → Option ((Nat → Int32) × (Nat → Int32) × (Nat → Nat → Int32))) (k49 : Int32 → Int32 → Int32 → (Nat → Int32) → (Nat → Int32) → (Nat → Nat → Int32) → Option ((Nat → Int32) × (Nat → Int32) × (Nat → Nat → Int32))) (v6 : Int32) (v7 : Int32) (v11 : Int32) (rc : Nat → Int32) (rv : Nat → Int32) (rb : Nat → Nat → Int32) : Option ((Nat → Int32) × (Nat → Int32) × (Nat → Nat → Int32)) :=
  if v11 < v5 then
    if (v7 + (nI 1)) = (nI 8) then
      bd3 (p_X3_push v0 (v6 ||| (ishl (l2i ((lushr v9 v11) &&& (lN 1))) v7)) rc rv rb) <| fun rc_1 rv_2 rb_3 =>
      k49 (nI 0) (nI 0) (v11 + (nI 1)) rc_1 rv_2 rb_3
    else
      k49 (v6 ||| (ishl (l2i ((lushr v9 v11) &&& (lN 1))) v7)) (v7 + (nI 1)) (v11 + (nI 1)) rc rv rb
  else
    k100 v6 v7 rc rv rb
def p_X3_pushPacked_L9 (v0 : Nat) (v1 : Nat) (v2 : Int32) (v3 : Int32) (v4 : Int32) (v5 : Int32) (la : Nat → Nat → Int64) (k9 : Int32 → Int32 → Int32 → (Nat → Int32) → (Nat → Int32) → (Nat → Nat → Int32) → Option ((Nat → Int32) × (Nat → Int32) × (Nat → Nat → Int32))) (v6 : Int32) (v7 : Int32) (v8 : Int32) (rc : Nat → Int32) (rv : Nat → Int32) (rb : Nat → Nat → Int32) : Option ((Nat → Int32) × (Nat → Int32) × (Nat → Nat → Int32)) :=
  if v8 < (v2 + v4) then
    if v8 < (nI 0) then
      itr6 (p_X3_pushPacked_L49 v0 v5 (lN 0) (fun v6_5 v7_6 rc_7 rv_8 rb_9 =>
          k9 v6_5 v7_6 (v8 + (nI 1)) rc_7 rv_8 rb_9)) fu v6 v7 (nI 0) rc rv rb
    else
      if v8 < v3 then
        if v8 < (nI 200) then
          gd (inb v8 200) <|
          itr6 (p_X3_pushPacked_L49 v0 v5 (la v1 (ix v8)) (fun v6_11 v7_12 rc_13 rv_14 rb_15 =>
              k9 v6_11 v7_12 (v8 + (nI 1)) rc_13 rv_14 rb_15)) fu v6 v7 (nI 0) rc rv rb
        else
          itr6 (p_X3_pushPacked_L49 v0 v5 (lN 0) (fun v6_16 v7_17 rc_18 rv_19 rb_20 =>
              k9 v6_16 v7_17 (v8 + (nI 1)) rc_18 rv_19 rb_20)) fu v6 v7 (nI 0) rc rv rb
      else
        itr6 (p_X3_pushPacked_L49 v0 v5 (lN 0) (fun v6_21 v7_22 rc_23 rv_24 rb_25 =>
            k9 v6_21 v7_22 (v8 + (nI 1)) rc_23 rv_24 rb_25)) fu v6 v7 (nI 0) rc rv rb
  else
    some (rc, rv, rb)
def p_X3_pushPacked (v0 : Nat) (v1 : Nat) (v2 : Int32) (v3 : Int32) (v4 : Int32) (v5 : Int32) (rc : Nat → Int32) (rv : Nat → Int32) (rb : Nat → Nat → Int32) (la : Nat → Nat → Int64) : Option ((Nat → Int32) × (Nat → Int32) × (Nat → Nat → Int32)) :=
  itr6 (p_X3_pushPacked_L9 v0 v1 v2 v3 v4 v5 la ) fu (nI 0) (nI 0) v2 rc rv rb
def p_X3_pushRuns_L6 (v0 : Nat) (v1 : Nat) (v2 : Int32) (v3 : Int32) (la : Nat → Nat → Int64) (k6 : Int32 → Int32 → (Nat → Int32) → (Nat → Int32) → (Nat → Nat → Int32) → Option ((Nat → Int32) × (Nat → Int32) × (Nat → Nat → Int32))) (v4 : Int32) (v5 : Int32) (rc : Nat → Int32) (rv : Nat → Int32) (rb : Nat → Nat → Int32) : Option ((Nat → Int32) × (Nat → Int32) × (Nat → Nat → Int32)) :=
  if v5 < v2 then
    if v4 < v2 then
      if v4 < (nI 200) then
        bd1 (p_X3_equalFrom v1 v4 v2 la) <| fun a_1 =>
        if a_1 < (nI 8) then
          bd1 (p_X3_groupsEnd v1 v4 v2 la) <| fun a_3 =>
          bd1 (p_X5_wholeGroups (a_3 - v4)) <| fun a_5 =>
          bd3 (p_X3_pushVar v0 (((lN 2) * (i2l a_5)) + (lN 1)) rc rv rb) <| fun rc_7 rv_8 rb_9 =>
          bd3 (p_X3_pushPacked v0 v1 v4 a_3 (a_5 * (nI 8)) v3 rc_7 rv_8 rb_9 la) <| fun rc_11 rv_12 rb_13 =>
          k6 (v4 + (a_5 * (nI 8))) (v5 + (nI 1)) rc_11 rv_12 rb_13
        else
          bd3 (p_X3_pushVar v0 ((lN 2) * (i2l a_1)) rc rv rb) <| fun rc_15 rv_16 rb_17 =>
          gd (inb v4 200) <|
          bd3 (p_X3_pushLittle v0 (la v1 (ix v4)) ((v3 + (nI 7)) / (nI 8)) rc_15 rv_16 rb_17) <| fun rc_20 rv_21 rb_22 =>
          k6 (v4 + a_1) (v5 + (nI 1)) rc_20 rv_21 rb_22
      else
        some (rc, rv, rb)
    else
      some (rc, rv, rb)
  else
    some (rc, rv, rb)
def p_X3_pushRuns (v0 : Nat) (v1 : Nat) (v2 : Int32) (v3 : Int32) (rc : Nat → Int32) (rv : Nat → Int32) (rb : Nat → Nat → Int32) (la : Nat → Nat → Int64) : Option ((Nat → Int32) × (Nat → Int32) × (Nat → Nat → Int32)) :=
  itr5 (p_X3_pushRuns_L6 v0 v1 v2 v3 la ) fu (nI 0) (nI 0) rc rv rb
def p_X3_set (v0 : Nat) (v1 : Int32) (v2 : Int32) (rc : Nat → Int32) (rb : Nat → Nat → Int32) : Option ((Nat → Nat → Int32)) :=
  if v1 < (nI 0) then
    some (rb)
  else
    if v1 < (rc v0) then
      if v1 < (nI (rlen v0)) then
        gd (inb v1 (rlen v0)) <|
        some ((up rb v0 (up (rb v0) (ix v1) (b8 v2))))
      else
        some (rb)
    else
      some (rb)
def p_X3_tellLength_L11 (v0 : Nat) (v1 : Int32) (v2 : Int32) (rc : Nat → Int32) (k11 : Int32 → (Nat → Nat → Int32) → Option ((Nat → Nat → Int32))) (v3 : Int32) (rb : Nat → Nat → Int32) : Option ((Nat → Nat → Int32)) :=
  if v3 < (nI 4) then
    bd1 (p_X3_set v0 (v1 + v3) (iushr v2 ((nI 8) * v3)) rc rb) <| fun rb_1 =>
    k11 (v3 + (nI 1)) rb_1
  else
    some (rb)
def p_X3_tellLength (v0 : Nat) (v1 : Int32) (rc : Nat → Int32) (rb : Nat → Nat → Int32) : Option ((Nat → Nat → Int32)) :=
  itr2 (p_X3_tellLength_L11 v0 v1 (((rc v0) - v1) - (nI 4)) rc ) fu (nI 0) rb
def p_X2_pushOwnRuns (v1 : Int32) (rc : Nat → Int32) (rv : Nat → Int32) (rb : Nat → Nat → Int32) (la : Nat → Nat → Int64) : Option ((Nat → Int32) × (Nat → Int32) × (Nat → Nat → Int32)) :=
  bd3 (p_X3_pushLittle 3 (lN 0) (nI 4) rc rv rb) <| fun rc_1 rv_2 rb_3 =>
  bd3 (p_X3_pushRuns 3 0 v1 (nI 1) rc_1 rv_2 rb_3 la) <| fun rc_5 rv_6 rb_7 =>
  bd1 (p_X3_tellLength 3 (rc 3) rc_5 rb_7) <| fun rb_9 =>
  some (rc_5, rv_6, rb_9)
def p_X2_pushPlaces_L2 (wch : Nat → Int32) (wcc : Int32) (wpl : Nat → Int32) (k71 : (Nat → Nat → Int64) → Option ((Nat → Int32) × (Nat → Int32) × (Nat → Nat → Int32) × (Nat → Nat → Int64))) (k2 : Int32 → (Nat → Nat → Int64) → Option ((Nat → Int32) × (Nat → Int32) × (Nat → Nat → Int32) × (Nat → Nat → Int64))) (v1 : Int32) (la : Nat → Nat → Int64) : Option ((Nat → Int32) × (Nat → Int32) × (Nat → Nat → Int32) × (Nat → Nat → Int64)) :=
  if v1 < wcc then
    if v1 < (nI 200) then
      if v1 < (nI 200) then
        gd (inb v1 200) <|
        if (wch (ix v1)) < (nI 0) then
          gd (inb v1 200) <|
          k2 (v1 + (nI 1)) (up la 0 (up (la 0) (ix v1) (lN 0)))
        else
          if (wch (ix v1)) < (nI 200) then
            gd (inb (wch (ix v1)) 200) <|
            gd (inb v1 200) <|
            k2 (v1 + (nI 1)) (up la 0 (up (la 0) (ix v1) (i2l (wpl (ix (wch (ix v1)))))))
          else
            gd (inb v1 200) <|
            k2 (v1 + (nI 1)) (up la 0 (up (la 0) (ix v1) (lN 0)))
      else
        k71 la
    else
      k71 la
  else
    k71 la
def p_X2_pushPlaces_J93 (s0 : Int32) (rc : Nat → Int32) (rv : Nat → Int32) (rb : Nat → Nat → Int32) (la : Nat → Nat → Int64) (wcc : Int32) : Option ((Nat → Int32) × (Nat → Int32) × (Nat → Nat → Int32) × (Nat → Nat → Int64)) :=
  bd3 (p_X3_push 3 s0 rc rv rb) <| fun rc_9 rv_10 rb_11 =>
  bd3 (p_X3_pushRuns 3 0 wcc s0 rc_9 rv_10 rb_11 la) <| fun rc_13 rv_14 rb_15 =>
  some (rc_13, rv_14, rb_15, la)
def p_X2_pushPlaces_J71 (rc : Nat → Int32) (rv : Nat → Int32) (rb : Nat → Nat → Int32) (la : Nat → Nat → Int64) (wcc : Int32) (wun : Int32) : Option ((Nat → Int32) × (Nat → Int32) × (Nat → Nat → Int32) × (Nat → Nat → Int64)) :=
  if (nI 1) < wun then
    bd1 (p_X5_bitsOf (i2l (wun - (nI 1)))) <| fun a_7 =>
    p_X2_pushPlaces_J93 a_7 rc rv rb la wcc
  else
    p_X2_pushPlaces_J93 (nI 0) rc rv rb la wcc
def p_X2_pushPlaces (rc : Nat → Int32) (rv : Nat → Int32) (rb : Nat → Nat → Int32) (la : Nat → Nat → Int64) (wch : Nat → Int32) (wcc : Int32) (wpl : Nat → Int32) (wun : Int32) : Option ((Nat → Int32) × (Nat → Int32) × (Nat → Nat → Int32) × (Nat → Nat → Int64)) :=
  itr2 (p_X2_pushPlaces_L2 wch wcc wpl (fun la_6 =>
      p_X2_pushPlaces_J71 rc rv rb la_6 wcc wun)) fu (nI 0) la
def p_X2_pushPlain_J88 (v1 : Nat) (v2 : Int32) (s1 : Int64) (s2 : Int32) (xk : Nat → Int32) (xn : Nat → Nat → Int64) (xl : Nat → Nat → Int32) (rc : Nat → Int32) (rv : Nat → Int32) (rb : Nat → Nat → Int32) (wch : Nat → Int32) (k43 : Int32 → (Nat → Int32) → (Nat → Int32) → (Nat → Nat → Int32) → Option ((Nat → Int32) × (Nat → Int32) × (Nat → Nat → Int32) × (Nat → Nat → Int64))) : Option ((Nat → Int32) × (Nat → Int32) × (Nat → Nat → Int32) × (Nat → Nat → Int64)) :=
  bd3 (p_X3_pushLittle 3 s1 s2 rc rv rb) <| fun rc_12 rv_13 rb_14 =>
  if (xk v1) = (nI 2) then
    gd (inb v2 200) <|
    bd3 (p_X2_pushLetters v1 (wch (ix v2)) xn xl rc_12 rv_13 rb_14) <| fun rc_17 rv_18 rb_19 =>
    k43 (v2 + (nI 1)) rc_17 rv_18 rb_19
  else
    k43 (v2 + (nI 1)) rc_12 rv_13 rb_14
def p_X2_pushPlain_L43 (v1 : Nat) (xk : Nat → Int32) (xn : Nat → Nat → Int64) (xl : Nat → Nat → Int32) (la : Nat → Nat → Int64) (wch : Nat → Int32) (wcc : Int32) (k43 : Int32 → (Nat → Int32) → (Nat → Int32) → (Nat → Nat → Int32) → Option ((Nat → Int32) × (Nat → Int32) × (Nat → Nat → Int32) × (Nat → Nat → Int64))) (v2 : Int32) (rc : Nat → Int32) (rv : Nat → Int32) (rb : Nat → Nat → Int32) : Option ((Nat → Int32) × (Nat → Int32) × (Nat → Nat → Int32) × (Nat → Nat → Int64)) :=
  if v2 < wcc then
    if v2 < (nI 200) then
      gd (inb v2 200) <|
      bd1 (p_X0_numberAt v1 (wch (ix v2)) xn) <| fun a_10 =>
      if (xk v1) = (nI 1) then
        p_X2_pushPlain_J88 v1 v2 a_10 (nI 8) xk xn xl rc rv rb wch k43
      else
        p_X2_pushPlain_J88 v1 v2 a_10 (nI 4) xk xn xl rc rv rb wch k43
    else
      some (rc, rv, rb, la)
  else
    some (rc, rv, rb, la)
def p_X2_pushPlain (v1 : Nat) (xk : Nat → Int32) (xn : Nat → Nat → Int64) (xl : Nat → Nat → Int32) (rc : Nat → Int32) (rv : Nat → Int32) (rb : Nat → Nat → Int32) (la : Nat → Nat → Int64) (wch : Nat → Int32) (wcc : Int32) : Option ((Nat → Int32) × (Nat → Int32) × (Nat → Nat → Int32) × (Nat → Nat → Int64)) :=
  if (xk v1) = (nI 3) then
    bd1 (p_X2_gatherNumbers v1 xn la wch wcc) <| fun la_1 =>
    bd1 (p_X5_wholeGroups wcc) <| fun a_3 =>
    bd3 (p_X3_pushPacked 3 0 (nI 0) wcc (a_3 * (nI 8)) (nI 1) rc rv rb la_1) <| fun rc_5 rv_6 rb_7 =>
    some (rc_5, rv_6, rb_7, la_1)
  else
    itr4 (p_X2_pushPlain_L43 v1 xk xn xl la wch wcc ) fu (nI 0) rc rv rb
def p_X3_append_L25 (v0 : Nat) (v1 : Nat) (k25 : Int32 → (Nat → Int32) → (Nat → Int32) → (Nat → Nat → Int32) → Option ((Nat → Int32) × (Nat → Int32) × (Nat → Nat → Int32))) (v2 : Int32) (rc : Nat → Int32) (rv : Nat → Int32) (rb : Nat → Nat → Int32) : Option ((Nat → Int32) × (Nat → Int32) × (Nat → Nat → Int32)) :=
  if v2 < (rc v1) then
    bd1 (p_X3_get v1 v2 rc rb) <| fun a_1 =>
    bd3 (p_X3_push v0 a_1 rc rv rb) <| fun rc_3 rv_4 rb_5 =>
    k25 (v2 + (nI 1)) rc_3 rv_4 rb_5
  else
    some (rc, rv, rb)
def p_X3_append (v0 : Nat) (v1 : Nat) (rc : Nat → Int32) (rv : Nat → Int32) (rb : Nat → Nat → Int32) : Option ((Nat → Int32) × (Nat → Int32) × (Nat → Nat → Int32)) :=
  if (rv v0) = (nI 0) then
    if (rv v1) = (nI 0) then
      itr4 (p_X3_append_L25 v0 v1 ) fu (nI 0) rc (up rv v0 (nI 0)) rb
    else
      itr4 (p_X3_append_L25 v0 v1 ) fu (nI 0) rc (up rv v0 (nI 1)) rb
  else
    itr4 (p_X3_append_L25 v0 v1 ) fu (nI 0) rc (up rv v0 (nI 1)) rb
def p_X3_clear (v0 : Nat) (rc : Nat → Int32) (rv : Nat → Int32) : Option ((Nat → Int32) × (Nat → Int32)) :=
  some ((up rc v0 (nI 0)), (up rv v0 (nI 0)))
def p_X3_lowerToLeast_L26 (v0 : Nat) (v2 : Int32) (la : Nat → Nat → Int64) (k56 : Int64 → Option (Int64 × (Nat → Nat → Int64))) (k26 : Int64 → Int32 → Option (Int64 × (Nat → Nat → Int64))) (v4 : Int64) (v6 : Int32) : Option (Int64 × (Nat → Nat → Int64)) :=
  if v6 < v2 then
    if v6 < (nI 200) then
      gd (inb v6 200) <|
      k26 (lmin v4 (la v0 (ix v6))) (v6 + (nI 1))
    else
      k56 v4
  else
    k56 v4
def p_X3_lowerToLeast_L63 (v0 : Nat) (v2 : Int32) (v3 : Int32) (v4 : Int64) (k63 : Int32 → (Nat → Nat → Int64) → Option (Int64 × (Nat → Nat → Int64))) (v6 : Int32) (la : Nat → Nat → Int64) : Option (Int64 × (Nat → Nat → Int64)) :=
  if v6 < v2 then
    if v6 < (nI 200) then
      gd (inb v6 200) <|
      if v3 = (nI 0) then
        gd (inb v6 200) <|
        k63 (v6 + (nI 1)) (up la v0 (up (la v0) (ix v6) ((la v0 (ix v6)) - v4)))
      else
        gd (inb v6 200) <|
        k63 (v6 + (nI 1)) (up la v0 (up (la v0) (ix v6) (((la v0 (ix v6)) - v4) &&& (lN 4294967295))))
    else
      some (v4, la)
  else
    some (v4, la)
def p_X3_lowerToLeast (v0 : Nat) (v1 : Int32) (v2 : Int32) (v3 : Int32) (la : Nat → Nat → Int64) : Option (Int64 × (Nat → Nat → Int64)) :=
  if v1 < (nI 0) then
    itr2 (p_X3_lowerToLeast_L26 v0 v2 la (fun v4_2 =>
        itr2 (p_X3_lowerToLeast_L63 v0 v2 v3 v4_2 ) fu (imax v1 (nI 0)) la)) fu (lN 0) (imax v1 (nI 0))
  else
    if v1 < (nI 200) then
      gd (inb v1 200) <|
      itr2 (p_X3_lowerToLeast_L26 v0 v2 la (fun v4_7 =>
          itr2 (p_X3_lowerToLeast_L63 v0 v2 v3 v4_7 ) fu (imax v1 (nI 0)) la)) fu (la v0 (ix v1)) (imax v1 (nI 0))
    else
      itr2 (p_X3_lowerToLeast_L26 v0 v2 la (fun v4_8 =>
          itr2 (p_X3_lowerToLeast_L63 v0 v2 v3 v4_8 ) fu (imax v1 (nI 0)) la)) fu (lN 0) (imax v1 (nI 0))
def p_X3_partWidth_L9 (v0 : Nat) (v1 : Int32) (v2 : Int32) (la : Nat → Nat → Int64) (k9 : Int64 → Int32 → Option (Int32)) (v3 : Int64) (v5 : Int32) : Option (Int32) :=
  if v5 < (v1 + (nI 32)) then
    if v5 < v2 then
      if v5 < (nI 200) then
        gd (inb v5 200) <|
        k9 (v3 ||| (la v0 (ix v5))) (v5 + (nI 1))
      else
        bd1 (p_X5_bitsOf v3) <| fun a_2 =>
        some (a_2)
    else
      bd1 (p_X5_bitsOf v3) <| fun a_4 =>
      some (a_4)
  else
    bd1 (p_X5_bitsOf v3) <| fun a_6 =>
    some (a_6)
def p_X3_partWidth (v0 : Nat) (v1 : Int32) (v2 : Int32) (la : Nat → Nat → Int64) : Option (Int32) :=
  itr2 (p_X3_partWidth_L9 v0 v1 v2 la ) fu (lN 0) (imax v1 (nI 0))
def p_X3_pushBlock_L22 (v0 : Nat) (v1 : Nat) (v2 : Int32) (v3 : Int32) (la : Nat → Nat → Int64) (k50 : (Nat → Int32) → (Nat → Int32) → (Nat → Nat → Int32) → Option ((Nat → Int32) × (Nat → Int32) × (Nat → Nat → Int32) × (Nat → Nat → Int64))) (k22 : Int32 → (Nat → Int32) → (Nat → Int32) → (Nat → Nat → Int32) → Option ((Nat → Int32) × (Nat → Int32) × (Nat → Nat → Int32) × (Nat → Nat → Int64))) (v7 : Int32) (rc : Nat → Int32) (rv : Nat → Int32) (rb : Nat → Nat → Int32) : Option ((Nat → Int32) × (Nat → Int32) × (Nat → Nat → Int32) × (Nat → Nat → Int64)) :=
  if v7 < (nI 4) then
    bd1 (p_X3_partWidth v1 (v2 + (v7 * (nI 32))) v3 la) <| fun a_10 =>
    bd3 (p_X3_push v0 a_10 rc rv rb) <| fun rc_12 rv_13 rb_14 =>
    k22 (v7 + (nI 1)) rc_12 rv_13 rb_14
  else
    k50 rc rv rb
def p_X3_pushBlock_L53 (v0 : Nat) (v1 : Nat) (v2 : Int32) (v3 : Int32) (la : Nat → Nat → Int64) (k53 : Int32 → (Nat → Int32) → (Nat → Int32) → (Nat → Nat → Int32) → Option ((Nat → Int32) × (Nat → Int32) × (Nat → Nat → Int32) × (Nat → Nat → Int64))) (v7 : Int32) (rc : Nat → Int32) (rv : Nat → Int32) (rb : Nat → Nat → Int32) : Option ((Nat → Int32) × (Nat → Int32) × (Nat → Nat → Int32) × (Nat → Nat → Int64)) :=
  if v7 < (nI 4) then
    if (v2 + (v7 * (nI 32))) < v3 then
      bd1 (p_X3_partWidth v1 (v2 + (v7 * (nI 32))) v3 la) <| fun a_19 =>
      bd3 (p_X3_pushPacked v0 v1 (v2 + (v7 * (nI 32))) v3 (nI 32) a_19 rc rv rb la) <| fun rc_21 rv_22 rb_23 =>
      k53 (v7 + (nI 1)) rc_21 rv_22 rb_23
    else
      k53 (v7 + (nI 1)) rc rv rb
  else
    some (rc, rv, rb, la)
def p_X3_pushBlock (v0 : Nat) (v1 : Nat) (v2 : Int32) (v3 : Int32) (v4 : Int32) (rc : Nat → Int32) (rv : Nat → Int32) (rb : Nat → Nat → Int32) (la : Nat → Nat → Int64) : Option ((Nat → Int32) × (Nat → Int32) × (Nat → Nat → Int32) × (Nat → Nat → Int64)) :=
  bd2 (p_X3_lowerToLeast v1 v2 v3 v4 la) <| fun a_1 la_2 =>
  bd1 (p_X5_zigged a_1) <| fun a_4 =>
  bd3 (p_X3_pushVar v0 a_4 rc rv rb) <| fun rc_6 rv_7 rb_8 =>
  itr4 (p_X3_pushBlock_L22 v0 v1 v2 v3 la_2 (fun rc_16 rv_17 rb_18 =>
      itr4 (p_X3_pushBlock_L53 v0 v1 v2 v3 la_2 ) fu (nI 0) rc_16 rv_17 rb_18)) fu (nI 0) rc_6 rv_7 rb_8
def p_X3_pushDifferences_L53 (v1 : Nat) (v3 : Int32) (k94 : (Nat → Nat → Int64) → Option ((Nat → Int32) × (Nat → Int32) × (Nat → Nat → Int32) × (Nat → Nat → Int64))) (k53 : Int32 → (Nat → Nat → Int64) → Option ((Nat → Int32) × (Nat → Int32) × (Nat → Nat → Int32) × (Nat → Nat → Int64))) (v4 : Int32) (la : Nat → Nat → Int64) : Option ((Nat → Int32) × (Nat → Int32) × (Nat → Nat → Int32) × (Nat → Nat → Int64)) :=
  if (nI 0) < v4 then
    gd (inb v4 200) <|
    gd (inb (v4 - (nI 1)) 200) <|
    if v3 = (nI 0) then
      gd (inb v4 200) <|
      k53 (v4 + (-1 : Int32)) (up la v1 (up (la v1) (ix v4) ((la v1 (ix v4)) - (la v1 (ix (v4 - (nI 1)))))))
    else
      gd (inb v4 200) <|
      k53 (v4 + (-1 : Int32)) (up la v1 (up (la v1) (ix v4) (i2l (l2i ((la v1 (ix v4)) - (la v1 (ix (v4 - (nI 1)))))))))
  else
    k94 la
def p_X3_pushDifferences_L97 (v0 : Nat) (v1 : Nat) (v2 : Int32) (v3 : Int32) (k97 : Int32 → (Nat → Int32) → (Nat → Int32) → (Nat → Nat → Int32) → (Nat → Nat → Int64) → Option ((Nat → Int32) × (Nat → Int32) × (Nat → Nat → Int32) × (Nat → Nat → Int64))) (v4 : Int32) (rc : Nat → Int32) (rv : Nat → Int32) (rb : Nat → Nat → Int32) (la : Nat → Nat → Int64) : Option ((Nat → Int32) × (Nat → Int32) × (Nat → Nat → Int32) × (Nat → Nat → Int64)) :=
  if v4 < v2 then
    bd4 (p_X3_pushBlock v0 v1 v4 (imin (imin (v4 + (nI 128)) v2) (nI 200)) v3 rc rv rb la) <| fun rc_25 rv_26 rb_27 la_28 =>
    k97 (v4 + (nI 128)) rc_25 rv_26 rb_27 la_28
  else
    some (rc, rv, rb, la)
def p_X3_pushDifferences_J37 (v0 : Nat) (v1 : Nat) (v2 : Int32) (v3 : Int32) (s0 : Nat) (s1 : Int64) (rc : Nat → Int32) (rv : Nat → Int32) (rb : Nat → Nat → Int32) (la : Nat → Nat → Int64) : Option ((Nat → Int32) × (Nat → Int32) × (Nat → Nat → Int32) × (Nat → Nat → Int64)) :=
  bd1 (p_X5_zigged s1) <| fun a_14 =>
  bd3 (p_X3_pushVar s0 a_14 rc rv rb) <| fun rc_16 rv_17 rb_18 =>
  itr2 (p_X3_pushDifferences_L53 v1 v3 (fun la_24 =>
      itr5 (p_X3_pushDifferences_L97 v0 v1 v2 v3 ) fu (nI 1) rc_16 rv_17 rb_18 la_24)) fu ((imin v2 (nI 200)) - (nI 1)) la
def p_X3_pushDifferences_J36 (v0 : Nat) (v1 : Nat) (v2 : Int32) (v3 : Int32) (s0 : Nat) (rc : Nat → Int32) (rv : Nat → Int32) (rb : Nat → Nat → Int32) (la : Nat → Nat → Int64) : Option ((Nat → Int32) × (Nat → Int32) × (Nat → Nat → Int32) × (Nat → Nat → Int64)) :=
  p_X3_pushDifferences_J37 v0 v1 v2 v3 s0 (lN 0) rc rv rb la
def p_X3_pushDifferences (v0 : Nat) (v1 : Nat) (v2 : Int32) (v3 : Int32) (rc : Nat → Int32) (rv : Nat → Int32) (rb : Nat → Nat → Int32) (la : Nat → Nat → Int64) : Option ((Nat → Int32) × (Nat → Int32) × (Nat → Nat → Int32) × (Nat → Nat → Int64)) :=
  bd3 (p_X3_pushVar v0 (lN 128) rc rv rb) <| fun rc_1 rv_2 rb_3 =>
  bd3 (p_X3_pushVar v0 (lN 4) rc_1 rv_2 rb_3) <| fun rc_5 rv_6 rb_7 =>
  bd3 (p_X3_pushVar v0 (i2l v2) rc_5 rv_6 rb_7) <| fun rc_9 rv_10 rb_11 =>
  if (nI 0) < v2 then
    if (nI 0) < (nI 200) then
      gd (inb (nI 0) 200) <|
      p_X3_pushDifferences_J37 v0 v1 v2 v3 v0 (la v1 (ix (nI 0))) rc_9 rv_10 rb_11 la
    else
      p_X3_pushDifferences_J36 v0 v1 v2 v3 v0 rc_9 rv_10 rb_11 la
  else
    p_X3_pushDifferences_J36 v0 v1 v2 v3 v0 rc_9 rv_10 rb_11 la
def p_X2_dataPage_J172 (v2 : Int32) (v3 : Int32) (v4 : Int32) (rc : Nat → Int32) (rv : Nat → Int32) (rb : Nat → Nat → Int32) (la : Nat → Nat → Int64) (wch : Nat → Int32) (wcc : Int32) : Option ((Nat → Int32) × (Nat → Int32) × (Nat → Nat → Int32) × (Nat → Nat → Int64) × (Nat → Int32) × Int32) :=
  bd3 (p_X2_pushHead (nI 0) (v3 - v2) v4 rc rv rb) <| fun rc_13 rv_14 rb_15 =>
  bd3 (p_X3_append 2 3 rc_13 rv_14 rb_15) <| fun rc_17 rv_18 rb_19 =>
  some (rc_17, rv_18, rb_19, la, wch, wcc)
def p_X2_dataPage_J117 (v2 : Int32) (v3 : Int32) (v4 : Int32) (s2 : Int32) (s3 : Int32) (rc : Nat → Int32) (rv : Nat → Int32) (rb : Nat → Nat → Int32) (la : Nat → Nat → Int64) (wch : Nat → Int32) (wcc : Int32) : Option ((Nat → Int32) × (Nat → Int32) × (Nat → Nat → Int32) × (Nat → Nat → Int64) × (Nat → Int32) × Int32) :=
  bd4 (p_X3_pushDifferences 3 0 s2 s3 rc rv rb la) <| fun rc_49 rv_50 rb_51 la_52 =>
  p_X2_dataPage_J172 v2 v3 v4 rc_49 rv_50 rb_51 la_52 wch wcc
def p_X2_dataPage_J28 (v1 : Nat) (v2 : Int32) (v3 : Int32) (v4 : Int32) (xk : Nat → Int32) (xt : Nat → Nat → Int32) (xn : Nat → Nat → Int64) (xl : Nat → Nat → Int32) (rc : Nat → Int32) (rv : Nat → Int32) (rb : Nat → Nat → Int32) (la : Nat → Nat → Int64) (wch : Nat → Int32) (wcc : Int32) (wpl : Nat → Int32) (wun : Int32) : Option ((Nat → Int32) × (Nat → Int32) × (Nat → Nat → Int32) × (Nat → Nat → Int64) × (Nat → Int32) × Int32) :=
  bd2 (p_X2_chooseThere v1 v2 v3 xt wch wcc) <| fun wch_4 wcc_5 =>
  if v4 = (nI 0) then
    bd4 (p_X2_pushPlain v1 xk xn xl rc rv rb la wch_4 wcc_5) <| fun rc_8 rv_9 rb_10 la_11 =>
    p_X2_dataPage_J172 v2 v3 v4 rc_8 rv_9 rb_10 la_11 wch_4 wcc_5
  else
    if v4 = (nI 1) then
      bd4 (p_X2_pushPlaces rc rv rb la wch_4 wcc_5 wpl wun) <| fun rc_22 rv_23 rb_24 la_25 =>
      p_X2_dataPage_J172 v2 v3 v4 rc_22 rv_23 rb_24 la_25 wch_4 wcc_5
    else
      if v4 = (nI 2) then
        bd4 (p_X2_pushPlaces rc rv rb la wch_4 wcc_5 wpl wun) <| fun rc_28 rv_29 rb_30 la_31 =>
        p_X2_dataPage_J172 v2 v3 v4 rc_28 rv_29 rb_30 la_31 wch_4 wcc_5
      else
        if v4 = (nI 3) then
          bd1 (p_X2_gatherNumbers v1 xn la wch_4 wcc_5) <| fun la_34 =>
          bd3 (p_X2_pushOwnRuns wcc_5 rc rv rb la_34) <| fun rc_36 rv_37 rb_38 =>
          p_X2_dataPage_J172 v2 v3 v4 rc_36 rv_37 rb_38 la_34 wch_4 wcc_5
        else
          if v4 = (nI 4) then
            bd4 (p_X2_pushPlaces rc rv rb la wch_4 wcc_5 wpl wun) <| fun rc_41 rv_42 rb_43 la_44 =>
            p_X2_dataPage_J172 v2 v3 v4 rc_41 rv_42 rb_43 la_44 wch_4 wcc_5
          else
            if v4 = (nI 5) then
              bd1 (p_X2_gatherNumbers v1 xn la wch_4 wcc_5) <| fun la_47 =>
              if (xk v1) = (nI 0) then
                p_X2_dataPage_J117 v2 v3 v4 wcc_5 (nI 1) rc rv rb la_47 wch_4 wcc_5
              else
                p_X2_dataPage_J117 v2 v3 v4 wcc_5 (nI 0) rc rv rb la_47 wch_4 wcc_5
            else
              if v4 = (nI 6) then
                bd1 (p_X2_gatherNumbers v1 xn la wch_4 wcc_5) <| fun la_55 =>
                bd4 (p_X3_pushDifferences 3 0 wcc_5 (nI 1) rc rv rb la_55) <| fun rc_57 rv_58 rb_59 la_60 =>
                bd3 (p_X2_pushAllLetters v1 xn xl rc_57 rv_58 rb_59 wch_4 wcc_5) <| fun rc_62 rv_63 rb_64 =>
                p_X2_dataPage_J172 v2 v3 v4 rc_62 rv_63 rb_64 la_60 wch_4 wcc_5
              else
                bd4 (p_X2_pushPlaces rc rv rb la wch_4 wcc_5 wpl wun) <| fun rc_66 rv_67 rb_68 la_69 =>
                p_X2_dataPage_J172 v2 v3 v4 rc_66 rv_67 rb_68 la_69 wch_4 wcc_5
def p_X2_dataPage (v1 : Nat) (v2 : Int32) (v3 : Int32) (v4 : Int32) (xk : Nat → Int32) (xo : Nat → Int32) (xt : Nat → Nat → Int32) (xn : Nat → Nat → Int64) (xl : Nat → Nat → Int32) (rc : Nat → Int32) (rv : Nat → Int32) (rb : Nat → Nat → Int32) (la : Nat → Nat → Int64) (wch : Nat → Int32) (wcc : Int32) (wpl : Nat → Int32) (wun : Int32) : Option ((Nat → Int32) × (Nat → Int32) × (Nat → Nat → Int32) × (Nat → Nat → Int64) × (Nat → Int32) × Int32) :=
  bd2 (p_X3_clear 3 rc rv) <| fun rc_1 rv_2 =>
  if (xo v1) = (nI 0) then
    p_X2_dataPage_J28 v1 v2 v3 v4 xk xt xn xl rc_1 rv_2 rb la wch wcc wpl wun
  else
    bd1 (p_X2_gatherLevels v1 v2 v3 xt la) <| fun la_71 =>
    bd3 (p_X2_pushOwnRuns (v3 - v2) rc_1 rv_2 rb la_71) <| fun rc_73 rv_74 rb_75 =>
    p_X2_dataPage_J28 v1 v2 v3 v4 xk xt xn xl rc_73 rv_74 rb_75 la_71 wch wcc wpl wun
def p_X2_chooseUnlike_J73 (v2 : Int32) (v3 : Int32) (wch : Nat → Int32) (wcc : Int32) (wpl : Nat → Int32) (k7 : Int32 → (Nat → Int32) → Int32 → (Nat → Int32) → Option ((Nat → Int32) × Int32 × (Nat → Int32) × Int32)) : Option ((Nat → Int32) × Int32 × (Nat → Int32) × Int32) :=
  if v3 = v2 then
    if wcc < (nI 0) then
      k7 (v2 + (nI 1)) wch wcc wpl
    else
      if wcc < (nI 200) then
        gd (inb wcc 200) <|
        gd (inb v2 200) <|
        k7 (v2 + (nI 1)) (up wch (ix wcc) v2) (wcc + (nI 1)) (up wpl (ix v2) wcc)
      else
        k7 (v2 + (nI 1)) wch wcc wpl
  else
    k7 (v2 + (nI 1)) wch wcc wpl
def p_X2_chooseUnlike_J48 (v2 : Int32) (s0 : Int32) (wch : Nat → Int32) (wcc : Int32) (wpl : Nat → Int32) (k7 : Int32 → (Nat → Int32) → Int32 → (Nat → Int32) → Option ((Nat → Int32) × Int32 × (Nat → Int32) × Int32)) : Option ((Nat → Int32) × Int32 × (Nat → Int32) × Int32) :=
  if s0 < (nI 0) then
    p_X2_chooseUnlike_J73 v2 s0 wch wcc wpl k7
  else
    if s0 < v2 then
      gd (inb s0 200) <|
      gd (inb v2 200) <|
      k7 (v2 + (nI 1)) wch wcc (up wpl (ix v2) (wpl (ix s0)))
    else
      p_X2_chooseUnlike_J73 v2 s0 wch wcc wpl k7
def p_X2_chooseUnlike_L7 (v1 : Nat) (xk : Nat → Int32) (xc : Nat → Int32) (xt : Nat → Nat → Int32) (xn : Nat → Nat → Int64) (xl : Nat → Nat → Int32) (k7 : Int32 → (Nat → Int32) → Int32 → (Nat → Int32) → Option ((Nat → Int32) × Int32 × (Nat → Int32) × Int32)) (v2 : Int32) (wch : Nat → Int32) (wcc : Int32) (wpl : Nat → Int32) : Option ((Nat → Int32) × Int32 × (Nat → Int32) × Int32) :=
  if v2 < (xc v1) then
    if v2 < (nI 200) then
      gd (inb v2 200) <|
      bd1 (p_X0_isThere v1 v2 xt) <| fun a_2 =>
      if a_2 = (nI 0) then
        p_X2_chooseUnlike_J48 v2 (-1 : Int32) wch wcc (up wpl (ix v2) (nI 0)) k7
      else
        bd1 (p_X0_firstLike v1 v2 xk xt xn xl) <| fun a_8 =>
        p_X2_chooseUnlike_J48 v2 a_8 wch wcc (up wpl (ix v2) (nI 0)) k7
    else
      some (wch, wcc, wpl, wcc)
  else
    some (wch, wcc, wpl, wcc)
def p_X2_chooseUnlike (v1 : Nat) (xk : Nat → Int32) (xc : Nat → Int32) (xt : Nat → Nat → Int32) (xn : Nat → Nat → Int64) (xl : Nat → Nat → Int32) (wch : Nat → Int32) (wcc : Int32) (wpl : Nat → Int32) (wun : Int32) : Option ((Nat → Int32) × Int32 × (Nat → Int32) × Int32) :=
  itr4 (p_X2_chooseUnlike_L7 v1 xk xc xt xn xl ) fu (nI 0) wch (nI 0) wpl
def p_X2_dictionaryPage (v1 : Nat) (xk : Nat → Int32) (xc : Nat → Int32) (xt : Nat → Nat → Int32) (xn : Nat → Nat → Int64) (xl : Nat → Nat → Int32) (rc : Nat → Int32) (rv : Nat → Int32) (rb : Nat → Nat → Int32) (la : Nat → Nat → Int64) (wch : Nat → Int32) (wcc : Int32) (wpl : Nat → Int32) (wun : Int32) : Option ((Nat → Int32) × (Nat → Int32) × (Nat → Nat → Int32) × (Nat → Nat → Int64) × (Nat → Int32) × Int32 × (Nat → Int32) × Int32) :=
  bd2 (p_X3_clear 3 rc rv) <| fun rc_1 rv_2 =>
  bd4 (p_X2_chooseUnlike v1 xk xc xt xn xl wch wcc wpl wun) <| fun wch_4 wcc_5 wpl_6 wun_7 =>
  bd4 (p_X2_pushPlain v1 xk xn xl rc_1 rv_2 rb la wch_4 wcc_5) <| fun rc_9 rv_10 rb_11 la_12 =>
  bd3 (p_X2_pushHead (nI 2) wun_7 (nI 0) rc_9 rv_10 rb_11) <| fun rc_14 rv_15 rb_16 =>
  bd3 (p_X3_append 2 3 rc_14 rv_15 rb_16) <| fun rc_18 rv_19 rb_20 =>
  some (rc_18, rv_19, rb_20, la_12, wch_4, wcc_5, wpl_6, wun_7)
def p_X2_writePages_L34 (v1 : Nat) (v2 : Int32) (v4 : Int32) (xk : Nat → Int32) (xo : Nat → Int32) (xc : Nat → Int32) (xt : Nat → Nat → Int32) (xn : Nat → Nat → Int64) (xl : Nat → Nat → Int32) (wpl : Nat → Int32) (wun : Int32) (k34 : Int32 → (Nat → Int32) → (Nat → Int32) → (Nat → Nat → Int32) → (Nat → Nat → Int64) → (Nat → Int32) → Int32 → Option ((Nat → Int32) × (Nat → Int32) × (Nat → Nat → Int32) × (Nat → Nat → Int64) × (Nat → Int32) × Int32 × (Nat → Int32) × Int32)) (v5 : Int32) (rc : Nat → Int32) (rv : Nat → Int32) (rb : Nat → Nat → Int32) (la : Nat → Nat → Int64) (wch : Nat → Int32) (wcc : Int32) : Option ((Nat → Int32) × (Nat → Int32) × (Nat → Nat → Int32) × (Nat → Nat → Int64) × (Nat → Int32) × Int32 × (Nat → Int32) × Int32) :=
  if v5 < (xc v1) then
    bd1 (p_X2_codeOf (xk v1) v2) <| fun a_13 =>
    bd6 (p_X2_dataPage v1 v5 (imin (v5 + v4) (xc v1)) a_13 xk xo xt xn xl rc rv rb la wch wcc wpl wun) <| fun rc_15 rv_16 rb_17 la_18 wch_19 wcc_20 =>
    k34 (v5 + v4) rc_15 rv_16 rb_17 la_18 wch_19 wcc_20
  else
    some (rc, rv, rb, la, wch, wcc, wpl, wun)
def p_X2_writePages (v1 : Nat) (v2 : Int32) (v3 : Int32) (xk : Nat → Int32) (xo : Nat → Int32) (xc : Nat → Int32) (xt : Nat → Nat → Int32) (xn : Nat → Nat → Int64) (xl : Nat → Nat → Int32) (rc : Nat → Int32) (rv : Nat → Int32) (rb : Nat → Nat → Int32) (la : Nat → Nat → Int64) (wch : Nat → Int32) (wcc : Int32) (wpl : Nat → Int32) (wun : Int32) : Option ((Nat → Int32) × (Nat → Int32) × (Nat → Nat → Int32) × (Nat → Nat → Int64) × (Nat → Int32) × Int32 × (Nat → Int32) × Int32) :=
  bd2 (p_X3_clear 2 rc rv) <| fun rc_1 rv_2 =>
  if v2 = (nI 1) then
    if (nI 0) < (xc v1) then
      bd8 (p_X2_dictionaryPage v1 xk xc xt xn xl rc_1 rv_2 rb la wch wcc wpl wun) <| fun rc_4 rv_5 rb_6 la_7 wch_8 wcc_9 wpl_10 wun_11 =>
      itr7 (p_X2_writePages_L34 v1 v2 (imax v3 (nI 1)) xk xo xc xt xn xl wpl_10 wun_11 ) fu (nI 0) rc_4 rv_5 rb_6 la_7 wch_8 wcc_9
    else
      itr7 (p_X2_writePages_L34 v1 v2 (imax v3 (nI 1)) xk xo xc xt xn xl wpl wun ) fu (nI 0) rc_1 rv_2 rb la wch wcc
  else
    itr7 (p_X2_writePages_L34 v1 v2 (imax v3 (nI 1)) xk xo xc xt xn xl wpl wun ) fu (nI 0) rc_1 rv_2 rb la wch wcc
def p_X3_shorten (v0 : Nat) (v1 : Int32) (rc : Nat → Int32) : Option ((Nat → Int32)) :=
  some ((up rc v0 (imax (nI 0) (imin v1 (rc v0)))))
def p_X5_columnAt (v1 : Int32) : Option ((Option Nat)) :=
  if v1 < (nI 0) then
    some (none)
  else
    if v1 < (nI 4) then
      gd (inb v1 4) <|
      some ((some (ix v1)))
    else
      some (none)
def p_X5_column (v1 : Int32) (v2 : Int32) (v3 : Int32) (xk : Nat → Int32) (xo : Nat → Int32) (xc : Nat → Int32) : Option (Int32 × (Nat → Int32) × (Nat → Int32) × (Nat → Int32)) :=
  bd1 (p_X5_columnAt v1) <| fun a_1 =>
  mo a_1
    (
      some ((-1 : Int32), xk, xo, xc))
    (fun o_3 => gd (decide (o_3 < 6)) <|
      if v2 < (nI 0) then
        some ((-1 : Int32), xk, xo, xc)
      else
        if (nI 3) < v2 then
          some ((-1 : Int32), xk, xo, xc)
        else
          bd3 (p_X0_begin o_3 v2 v3 xk xo xc) <| fun xk_5 xo_6 xc_7 =>
          some ((xc o_3), xk_5, xo_6, xc_7))
def p_X5_add (v1 : Int32) (v2 : Int64) (xk : Nat → Int32) (xc : Nat → Int32) (xt : Nat → Nat → Int32) (xn : Nat → Nat → Int64) : Option (Int32 × (Nat → Int32) × (Nat → Nat → Int32) × (Nat → Nat → Int64)) :=
  bd1 (p_X5_columnAt v1) <| fun a_1 =>
  mo a_1
    (
      some ((-1 : Int32), xc, xt, xn))
    (fun o_3 => gd (decide (o_3 < 6)) <|
      if (xk o_3) = (nI 2) then
        some ((-2 : Int32), xc, xt, xn)
      else
        if (xc o_3) < (nI 200) then
          bd3 (p_X0_pushNumber o_3 v2 xk xc xt xn) <| fun xc_5 xt_6 xn_7 =>
          some (((xc_5 o_3) - (nI 1)), xc_5, xt_6, xn_7)
        else
          some ((-3 : Int32), xc, xt, xn))
def p_X5_type_L35 (v1 : Int64) (k35 : Int32 → (Nat → Int32) → (Nat → Int32) → (Nat → Nat → Int32) → Option (Int32 × (Nat → Int32) × (Nat → Int32) × (Nat → Nat → Int32))) (v4 : Int32) (rc : Nat → Int32) (rv : Nat → Int32) (rb : Nat → Nat → Int32) : Option (Int32 × (Nat → Int32) × (Nat → Int32) × (Nat → Nat → Int32)) :=
  if v4 < (nI 0) then
    some ((rc 0), rc, rv, rb)
  else
    bd3 (p_X3_push 0 (l2i (lushr v1 ((nI 8) * v4))) rc rv rb) <| fun rc_1 rv_2 rb_3 =>
    k35 (v4 + (-1 : Int32)) rc_1 rv_2 rb_3
def p_X5_type (v1 : Int64) (v3 : Int32) (rc : Nat → Int32) (rv : Nat → Int32) (rb : Nat → Nat → Int32) : Option (Int32 × (Nat → Int32) × (Nat → Int32) × (Nat → Nat → Int32)) :=
  if v3 < (nI 1) then
    some ((-1 : Int32), rc, rv, rb)
  else
    if (nI 8) < v3 then
      some ((-1 : Int32), rc, rv, rb)
    else
      if (nI 40) < ((rc 0) + v3) then
        some ((-3 : Int32), rc, rv, rb)
      else
        itr4 (p_X5_type_L35 v1 ) fu (v3 - (nI 1)) rc rv rb
def p_X5_addText (v1 : Int32) (xk : Nat → Int32) (xc : Nat → Int32) (xt : Nat → Nat → Int32) (xn : Nat → Nat → Int64) (xl : Nat → Nat → Int32) (rc : Nat → Int32) (rv : Nat → Int32) (rb : Nat → Nat → Int32) : Option (Int32 × (Nat → Int32) × (Nat → Nat → Int32) × (Nat → Nat → Int64) × (Nat → Nat → Int32) × (Nat → Int32) × (Nat → Int32)) :=
  bd1 (p_X5_columnAt v1) <| fun a_1 =>
  mo a_1
    (
      some ((-1 : Int32), xc, xt, xn, xl, rc, rv))
    (fun o_3 => gd (decide (o_3 < 6)) <|
      if (xk o_3) = (nI 2) then
        if (xc o_3) < (nI 200) then
          bd4 (p_X0_pushText o_3 0 (nI 0) (rc 0) xc xt xn xl rc rb) <| fun xc_5 xt_6 xn_7 xl_8 =>
          bd2 (p_X3_clear 0 rc rv) <| fun rc_10 rv_11 =>
          some (((xc_5 o_3) - (nI 1)), xc_5, xt_6, xn_7, xl_8, rc_10, rv_11)
        else
          some ((-3 : Int32), xc, xt, xn, xl, rc, rv)
      else
        some ((-2 : Int32), xc, xt, xn, xl, rc, rv))
def p_X5_addNone (v1 : Int32) (xo : Nat → Int32) (xc : Nat → Int32) (xt : Nat → Nat → Int32) (xn : Nat → Nat → Int64) : Option (Int32 × (Nat → Int32) × (Nat → Nat → Int32) × (Nat → Nat → Int64)) :=
  bd1 (p_X5_columnAt v1) <| fun a_1 =>
  mo a_1
    (
      some ((-1 : Int32), xc, xt, xn))
    (fun o_3 => gd (decide (o_3 < 6)) <|
      if (xo o_3) = (nI 0) then
        some ((-2 : Int32), xc, xt, xn)
      else
        if (xc o_3) < (nI 200) then
          bd3 (p_X0_pushNone o_3 xc xt xn) <| fun xc_5 xt_6 xn_7 =>
          some (((xc_5 o_3) - (nI 1)), xc_5, xt_6, xn_7)
        else
          some ((-3 : Int32), xc, xt, xn))
def p_X5_repeat (v1 : Int32) (v2 : Int32) (v3 : Int32) (xk : Nat → Int32) (xc : Nat → Int32) (xt : Nat → Nat → Int32) (xn : Nat → Nat → Int64) (xl : Nat → Nat → Int32) : Option (Int32 × (Nat → Int32) × (Nat → Nat → Int32) × (Nat → Nat → Int64) × (Nat → Nat → Int32)) :=
  bd1 (p_X5_columnAt v1) <| fun a_1 =>
  mo a_1
    (
      some ((-1 : Int32), xc, xt, xn, xl))
    (fun o_3 => gd (decide (o_3 < 6)) <|
      if v2 < (nI 0) then
        some ((-1 : Int32), xc, xt, xn, xl)
      else
        if (xc o_3) < v2 then
          some ((-1 : Int32), xc, xt, xn, xl)
        else
          if v3 < (nI 1) then
            some ((-1 : Int32), xc, xt, xn, xl)
          else
            if (nI 200) < v3 then
              some ((-1 : Int32), xc, xt, xn, xl)
            else
              if (nI 200) < (v2 * v3) then
                some ((-3 : Int32), xc, xt, xn, xl)
              else
                bd4 (p_X0_multiply o_3 v2 v3 xk xc xt xn xl) <| fun xc_5 xt_6 xn_7 xl_8 =>
                some ((xc_5 o_3), xc_5, xt_6, xn_7, xl_8))
def p_X5_told (v1 : Int32) (v2 : Int32) (xk : Nat → Int32) (xo : Nat → Int32) (xc : Nat → Int32) (xt : Nat → Nat → Int32) (xn : Nat → Nat → Int64) (xl : Nat → Nat → Int32) : Option (Int32) :=
  bd1 (p_X5_columnAt v1) <| fun a_1 =>
  mo a_1
    (
      some ((-1 : Int32)))
    (fun o_3 => gd (decide (o_3 < 6)) <|
      if v2 = (nI 0) then
        some ((xk o_3))
      else
        if v2 = (nI 1) then
          if (xo o_3) = (nI 0) then
            some ((nI 0))
          else
            some ((nI 1))
        else
          if v2 = (nI 2) then
            some ((xc o_3))
          else
            if v2 = (nI 3) then
              bd1 (p_X0_countAbsent o_3 xc xt) <| fun a_9 =>
              some (a_9)
            else
              if v2 = (nI 4) then
                bd1 (p_X0_countUnlike o_3 xk xc xt xn xl) <| fun a_12 =>
                some (a_12)
              else
                some ((-1 : Int32)))
def p_X5_has (v1 : Int32) (v2 : Int32) (xc : Nat → Int32) (xt : Nat → Nat → Int32) : Option (Int32) :=
  bd1 (p_X5_columnAt v1) <| fun a_1 =>
  mo a_1
    (
      some ((-1 : Int32)))
    (fun o_3 => gd (decide (o_3 < 6)) <|
      bd1 (p_X0_holds o_3 v2 xc) <| fun a_5 =>
      if a_5 = (nI 0) then
        some ((-1 : Int32))
      else
        bd1 (p_X0_isThere o_3 v2 xt) <| fun a_7 =>
        if a_7 = (nI 0) then
          some ((nI 0))
        else
          some ((nI 1)))
def p_X5_value (v1 : Int32) (v2 : Int32) (xc : Nat → Int32) (xn : Nat → Nat → Int64) : Option (Int64) :=
  bd1 (p_X5_columnAt v1) <| fun a_1 =>
  mo a_1
    (
      some ((lN 0)))
    (fun o_3 => gd (decide (o_3 < 6)) <|
      bd1 (p_X0_holds o_3 v2 xc) <| fun a_5 =>
      if a_5 = (nI 0) then
        some ((lN 0))
      else
        bd1 (p_X0_numberAt o_3 v2 xn) <| fun a_7 =>
        some (a_7))
def p_X5_letter (v1 : Int32) (v2 : Int32) (v3 : Int32) (xk : Nat → Int32) (xc : Nat → Int32) (xt : Nat → Nat → Int32) (xn : Nat → Nat → Int64) (xl : Nat → Nat → Int32) : Option (Int32) :=
  bd1 (p_X5_columnAt v1) <| fun a_1 =>
  mo a_1
    (
      some ((-1 : Int32)))
    (fun o_3 => gd (decide (o_3 < 6)) <|
      if (xk o_3) = (nI 2) then
        bd1 (p_X0_holds o_3 v2 xc) <| fun a_5 =>
        if a_5 = (nI 0) then
          some ((-1 : Int32))
        else
          bd1 (p_X0_isThere o_3 v2 xt) <| fun a_7 =>
          if a_7 = (nI 0) then
            some ((-1 : Int32))
          else
            if v3 < (nI 0) then
              some ((-1 : Int32))
            else
              bd1 (p_X0_numberAt o_3 v2 xn) <| fun a_9 =>
              if (i2l v3) < a_9 then
                bd1 (p_X0_letterAt o_3 v2 v3 xl) <| fun a_11 =>
                some (a_11)
              else
                some ((-1 : Int32))
      else
        some ((-1 : Int32)))
def p_X5_alike (v1 : Int32) (v2 : Int32) (xk : Nat → Int32) (xc : Nat → Int32) (xt : Nat → Nat → Int32) (xn : Nat → Nat → Int64) (xl : Nat → Nat → Int32) : Option (Int32) :=
  bd1 (p_X5_columnAt v1) <| fun a_1 =>
  mo a_1
    (
      bd1 (p_X5_columnAt v2) <| fun a_4 =>
      mo a_4
        (
          some ((-1 : Int32)))
        (fun o_6 => gd (decide (o_6 < 6)) <|
          some ((-1 : Int32))))
    (fun o_3 => gd (decide (o_3 < 6)) <|
      bd1 (p_X5_columnAt v2) <| fun a_9 =>
      mo a_9
        (
          some ((-1 : Int32)))
        (fun o_11 => gd (decide (o_11 < 6)) <|
          bd1 (p_X0_isLike o_3 o_11 xk xc xt xn xl) <| fun a_13 =>
          if a_13 = (nI 0) then
            some ((nI 0))
          else
            some ((nI 1))))
def p_X5_write_J78 (s0 : Int32) (rc : Nat → Int32) (rv : Nat → Int32) (rb : Nat → Nat → Int32) (la : Nat → Nat → Int64) (wch : Nat → Int32) (wcc : Int32) (wpl : Nat → Int32) (wun : Int32) : Option (Int32 × (Nat → Int32) × (Nat → Int32) × (Nat → Nat → Int32) × (Nat → Nat → Int64) × (Nat → Int32) × Int32 × (Nat → Int32) × Int32) :=
  if (rv 2) = (nI 0) then
    if (nI 12000) < (s0 + (rc 2)) then
      some ((-3 : Int32), rc, rv, rb, la, wch, wcc, wpl, wun)
    else
      bd1 (p_X3_shorten 1 s0 rc) <| fun rc_14 =>
      bd3 (p_X3_append 1 2 rc_14 rv rb) <| fun rc_16 rv_17 rb_18 =>
      some ((rc_16 1), rc_16, rv_17, rb_18, la, wch, wcc, wpl, wun)
  else
    some ((-3 : Int32), rc, rv, rb, la, wch, wcc, wpl, wun)
def p_X5_write_J51 (v2 : Int32) (v3 : Int32) (v4 : Int32) (v5 : Nat) (xk : Nat → Int32) (xo : Nat → Int32) (xc : Nat → Int32) (xt : Nat → Nat → Int32) (xn : Nat → Nat → Int64) (xl : Nat → Nat → Int32) (rc : Nat → Int32) (rv : Nat → Int32) (rb : Nat → Nat → Int32) (la : Nat → Nat → Int64) (wch : Nat → Int32) (wcc : Int32) (wpl : Nat → Int32) (wun : Int32) : Option (Int32 × (Nat → Int32) × (Nat → Int32) × (Nat → Nat → Int32) × (Nat → Nat → Int64) × (Nat → Int32) × Int32 × (Nat → Int32) × Int32) :=
  bd8 (p_X2_writePages v5 v2 v3 xk xo xc xt xn xl rc rv rb la wch wcc wpl wun) <| fun rc_5 rv_6 rb_7 la_8 wch_9 wcc_10 wpl_11 wun_12 =>
  if v4 = (nI 0) then
    p_X5_write_J78 (nI 0) rc_5 rv_6 rb_7 la_8 wch_9 wcc_10 wpl_11 wun_12
  else
    p_X5_write_J78 (rc_5 1) rc_5 rv_6 rb_7 la_8 wch_9 wcc_10 wpl_11 wun_12
def p_X5_write (v1 : Int32) (v2 : Int32) (v3 : Int32) (v4 : Int32) (xk : Nat → Int32) (xo : Nat → Int32) (xc : Nat → Int32) (xt : Nat → Nat → Int32) (xn : Nat → Nat → Int64) (xl : Nat → Nat → Int32) (rc : Nat → Int32) (rv : Nat → Int32) (rb : Nat → Nat → Int32) (la : Nat → Nat → Int64) (wch : Nat → Int32) (wcc : Int32) (wpl : Nat → Int32) (wun : Int32) : Option (Int32 × (Nat → Int32) × (Nat → Int32) × (Nat → Nat → Int32) × (Nat → Nat → Int64) × (Nat → Int32) × Int32 × (Nat → Int32) × Int32) :=
  bd1 (p_X5_columnAt v1) <| fun a_1 =>
  mo a_1
    (
      some ((-1 : Int32), rc, rv, rb, la, wch, wcc, wpl, wun))
    (fun o_3 => gd (decide (o_3 < 6)) <|
      if v2 < (nI 0) then
        some ((-1 : Int32), rc, rv, rb, la, wch, wcc, wpl, wun)
      else
        if (nI 2) < v2 then
          some ((-1 : Int32), rc, rv, rb, la, wch, wcc, wpl, wun)
        else
          if v3 < (nI 1) then
            some ((-1 : Int32), rc, rv, rb, la, wch, wcc, wpl, wun)
          else
            if (nI 200) < v3 then
              some ((-1 : Int32), rc, rv, rb, la, wch, wcc, wpl, wun)
            else
              if v2 = (nI 1) then
                if (xk o_3) = (nI 3) then
                  some ((-1 : Int32), rc, rv, rb, la, wch, wcc, wpl, wun)
                else
                  p_X5_write_J51 v2 v3 v4 o_3 xk xo xc xt xn xl rc rv rb la wch wcc wpl wun
              else
                p_X5_write_J51 v2 v3 v4 o_3 xk xo xc xt xn xl rc rv rb la wch wcc wpl wun)
def p_X5_read (v1 : Int32) (xk : Nat → Int32) (xo : Nat → Int32) (xc : Nat → Int32) (xt : Nat → Nat → Int32) (xn : Nat → Nat → Int64) (xl : Nat → Nat → Int32) (rc : Nat → Int32) (rb : Nat → Nat → Int32) (la : Nat → Nat → Int64) (srow : Option Nat) (ssp : Int32) (sen : Int32) (str : Int32) (stp : Int32) (swd : Nat → Int32) (rwp : Int32) (rdr : Int32) (rpd : Int32) (rpv : Int32) (rpc : Int32) (rzp : Int32) : Option (Int32 × (Nat → Int32) × (Nat → Int32) × (Nat → Int32) × (Nat → Nat → Int32) × (Nat → Nat → Int64) × (Nat → Nat → Int32) × (Nat → Nat → Int64) × (Option Nat) × Int32 × Int32 × Int32 × Int32 × (Nat → Int32) × Int32 × Int32 × Int32 × Int32 × Int32 × Int32) :=
  bd1 (p_X5_columnAt v1) <| fun a_1 =>
  mo a_1
    (
      some ((-1 : Int32), xk, xo, xc, xt, xn, xl, la, srow, ssp, sen, str, stp, swd, rwp, rdr, rpd, rpv, rpc, rzp))
    (fun o_3 => gd (decide (o_3 < 6)) <|
      bd19 (p_X1_readPages 1 (xk o_3) (xo o_3) xk xo xc xt xn xl rc rb la srow ssp sen str stp swd rwp rdr rpd rpv rpc rzp) <| fun xk_5 xo_6 xc_7 xt_8 xn_9 xl_10 la_11 srow_12 ssp_13 sen_14 str_15 stp_16 swd_17 rwp_18 rdr_19 rpd_20 rpv_21 rpc_22 rzp_23 =>
      bd1 (p_X4_isSound str_15) <| fun a_25 =>
      if a_25 = (nI 0) then
        some (((-10 : Int32) - str_15), xk_5, xo_6, xc_7, xt_8, xn_9, xl_10, la_11, srow_12, ssp_13, sen_14, str_15, stp_16, swd_17, rwp_18, rdr_19, rpd_20, rpv_21, rpc_22, rzp_23)
      else
        bd6 (p_X0_become o_3 4 xk_5 xo_6 xc_7 xt_8 xn_9 xl_10) <| fun xk_27 xo_28 xc_29 xt_30 xn_31 xl_32 =>
        some ((xc_29 o_3), xk_27, xo_28, xc_29, xt_30, xn_31, xl_32, la_11, srow_12, ssp_13, sen_14, str_15, stp_16, swd_17, rwp_18, rdr_19, rpd_20, rpv_21, rpc_22, rzp_23))
def p_X5_fault (v1 : Int32) (xc : Nat → Int32) (str : Int32) (stp : Int32) (rwp : Int32) : Option (Int32) :=
  if v1 = (nI 0) then
    some (str)
  else
    if v1 = (nI 1) then
      some (stp)
    else
      if v1 = (nI 2) then
        some (rwp)
      else
        if v1 = (nI 3) then
          some ((xc 5))
        else
          some ((-1 : Int32))
def p_X5_size (rc : Nat → Int32) : Option (Int32) :=
  some ((rc 1))
def p_X5_byteAt (v1 : Int32) (rc : Nat → Int32) (rb : Nat → Nat → Int32) : Option (Int32) :=
  if v1 < (nI 0) then
    some ((-1 : Int32))
  else
    if v1 < (rc 1) then
      bd1 (p_X3_get 1 v1 rc rb) <| fun a_1 =>
      some (a_1)
    else
      some ((-1 : Int32))
def p_X5_poke (v1 : Int32) (v2 : Int32) (rc : Nat → Int32) (rb : Nat → Nat → Int32) : Option (Int32 × (Nat → Nat → Int32)) :=
  if v1 < (nI 0) then
    some ((-1 : Int32), rb)
  else
    if v1 < (rc 1) then
      bd1 (p_X3_get 1 v1 rc rb) <| fun a_1 =>
      bd1 (p_X3_set 1 v1 (a_1 ^^^ v2) rc rb) <| fun rb_3 =>
      bd1 (p_X3_get 1 v1 rc rb_3) <| fun a_5 =>
      some (a_5, rb_3)
    else
      some ((-1 : Int32), rb)
def p_X5_cut (v1 : Int32) (rc : Nat → Int32) : Option (Int32 × (Nat → Int32)) :=
  if v1 < (nI 0) then
    some ((-1 : Int32), rc)
  else
    if (rc 1) < v1 then
      some ((-1 : Int32), rc)
    else
      bd1 (p_X3_shorten 1 v1 rc) <| fun rc_1 =>
      some (((rc 1) - v1), rc_1)
def p_X5_put (v1 : Int64) (v3 : Int32) (rc : Nat → Int32) (rv : Nat → Int32) (rb : Nat → Nat → Int32) : Option (Int32 × (Nat → Int32) × (Nat → Int32) × (Nat → Nat → Int32)) :=
  if v3 < (nI 1) then
    some ((-1 : Int32), rc, rv, rb)
  else
    if (nI 8) < v3 then
      some ((-1 : Int32), rc, rv, rb)
    else
      if (nI 12000) < ((rc 1) + v3) then
        some ((-3 : Int32), rc, rv, rb)
      else
        bd3 (p_X3_pushLittle 1 v1 v3 rc rv rb) <| fun rc_1 rv_2 rb_3 =>
        some ((rc_1 1), rc_1, rv_2, rb_3)
