/-! THE REFERENCE, pure: what each of its methods does to a world (region 15). Ghost text: the machine of this law does not run it -/
def FX13_thrown (w : Wd)  : Int32 :=
  (w 15).1 0 0
def FX13_isIn (p0 : Int64) (p2 : Int64) (p4 : Int64) : Bool :=
  if lg_cmp p0 p2 < 0 then
    false
  else
    if 0 < lg_cmp p0 p4 then
      false
    else
      true
def FX13_truth (p0 : Bool) : Int32 :=
  if p0 = true then
    1
  else
    0
def FX13_has (p0 : Int32) (p1 : Int32) : Bool :=
  if (p0 >>> (p1 &&& 31)) &&& 1 = 1 then
    true
  else
    false
def FX13_goes (w : Wd) (p1 : Bool) : Bool × Wd :=
  if p1 = true then
    bnd (FX13_truth false) fun x2 =>
    bnd (sW w 15 (sI (w 15) 0 0 x2)) fun w4 =>
    (p1, w4)
  else
    bnd (FX13_truth true) fun x7 =>
    bnd (sW w 15 (sI (w 15) 0 0 x7)) fun w9 =>
    (p1, w9)
def FX13_goesBoth (w : Wd) (p1 : Bool) (p2 : Bool) : Bool × Wd :=
  if p1 = true then
    if p2 = true then
      bnd (sW w 15 (sI (w 15) 0 0 0)) fun w1 =>
      if (w1 15).1 0 0 = 0 then
        (true, w1)
      else
        (false, w1)
    else
      bnd (sW w 15 (sI (w 15) 0 0 2)) fun w3 =>
      if (w3 15).1 0 0 = 0 then
        (true, w3)
      else
        (false, w3)
  else
    bnd (sW w 15 (sI (w 15) 0 0 1)) fun w5 =>
    if (w5 15).1 0 0 = 0 then
      (true, w5)
    else
      (false, w5)
def FX13_goesThree (w : Wd) (p1 : Bool) (p2 : Bool) (p3 : Bool) : Bool × Wd :=
  if p1 = true then
    if p2 = true then
      if p3 = true then
        bnd (sW w 15 (sI (w 15) 0 0 0)) fun w1 =>
        if (w1 15).1 0 0 = 0 then
          (true, w1)
        else
          (false, w1)
      else
        bnd (sW w 15 (sI (w 15) 0 0 3)) fun w3 =>
        if (w3 15).1 0 0 = 0 then
          (true, w3)
        else
          (false, w3)
    else
      bnd (sW w 15 (sI (w 15) 0 0 2)) fun w5 =>
      if (w5 15).1 0 0 = 0 then
        (true, w5)
      else
        (false, w5)
  else
    bnd (sW w 15 (sI (w 15) 0 0 1)) fun w7 =>
    if (w7 15).1 0 0 = 0 then
      (true, w7)
    else
      (false, w7)
def FX13_four_L3 (n : Nat) : Nat → Wd → Int32 → Int32 → Option (Wd)
  | 0 => fun _ _ _ => none
  | k + 1 => fun w l1 l2 =>
    if l2 < 0 then
      some w
    else
      gd (inb ((w 15).1 0 2) 600) <| bnd (sW w 15 (sI (w 15) 1 (((w 15).1 0 2).toNatClampNeg) ((l1 >>> (l2 &&& 31)) &&& 255))) fun w2 =>
      bnd (sW w2 15 (sI (w2 15) 0 2 (((w2 15).1 0 2) + 1))) fun w4 =>
      FX13_four_L3 n k w4 l1 (l2 + (-8))
def FX13_four (n : Nat) (w : Wd) (p1 : Int32) : Option (Wd) :=
  FX13_four_L3 n n w p1 24
def FX13_feed (n : Nat) (w : Wd) (p1 : Int32) (p2 : Int32) (p3 : Int32) (p4 : Int32) (p5 : Int32) : Option (Int32 × Wd) :=
  if 600 < ((w 15).1 0 2) + 20 then
    bnd2 (FX13_goes w false) fun x2 w3 =>
    if x2 = true then
      bo1 (FX13_four n w3 p1) fun w6 =>
      bo1 (FX13_four n w6 p2) fun w9 =>
      bo1 (FX13_four n w9 p3) fun w12 =>
      bo1 (FX13_four n w12 p4) fun w15 =>
      bo1 (FX13_four n w15 p5) fun w18 =>
      some ((w18 15).1 0 2, w18)
    else
      some (0, w3)
  else
    bnd2 (FX13_goes w true) fun x21 w22 =>
    if x21 = true then
      bo1 (FX13_four n w22 p1) fun w25 =>
      bo1 (FX13_four n w25 p2) fun w28 =>
      bo1 (FX13_four n w28 p3) fun w31 =>
      bo1 (FX13_four n w31 p4) fun w34 =>
      bo1 (FX13_four n w34 p5) fun w37 =>
      some ((w37 15).1 0 2, w37)
    else
      some (0, w22)
def FX13_truncate (w : Wd) (p1 : Int32) : Int32 × Wd :=
  bnd (FX13_isIn p1.toInt64 0 (((w 15).1 0 2).toInt64)) fun x2 =>
  bnd2 (FX13_goes w x2) fun x5 w6 =>
  if x5 = true then
    bnd (sW w6 15 (sI (w6 15) 0 2 p1)) fun w8 =>
    (p1, w8)
  else
    (0, w6)
def FX13_here (w : Wd) (p1 : Int32) : Option (Int32) :=
  if (w 15).1 0 3 ≤ ((w 15).1 0 4) + p1 then
    some (-1)
  else
    gd (inb (((w 15).1 0 4) + p1) 600) <|
    some ((w 15).1 1 ((((w 15).1 0 4) + p1).toNatClampNeg))
def FX13_isLetter (p0 : Int32) : Bool :=
  if p0 < 97 then
    false
  else
    if 122 < p0 then
      false
    else
      true
def FX13_isDigit (p0 : Int32) : Bool :=
  if p0 < 48 then
    false
  else
    if 57 < p0 then
      false
    else
      true
def FX13_goOnRead_B239 (n : Nat) (w : Wd) (l2 : Int32) : Option (Wd) :=
  bnd (sW w 15 (sI (w 15) 0 4 (((w 15).1 0 4) + l2))) fun w28 =>
  some w28
def FX13_goOnRead_B229 (n : Nat) (w : Wd) (l1 : Int32) (y0 : Int32) : Option (Wd) :=
  bnd (sW w 15 (sI (w 15) 0 6 y0)) fun w24 =>
  bnd (sW w24 15 (sI (w24 15) 0 7 l1)) fun w26 =>
  FX13_goOnRead_B239 n w26 1
def FX13_goOnRead_B224 (n : Nat) (w : Wd) (l1 : Int32) : Option (Wd) :=
  FX13_goOnRead_B229 n w l1 3
def FX13_goOnRead_B199 (n : Nat) (w : Wd) (l2 : Int32) (y0 : Int32) : Option (Wd) :=
  bnd (sW w 15 (sI (w 15) 0 6 y0)) fun w36 =>
  FX13_goOnRead_B239 n w36 l2
def FX13_goOnRead_L146 (n : Nat) : Nat → Wd → Int32 → Int32 → Option (Wd)
  | 0 => fun _ _ _ => none
  | k + 1 => fun w l1 l2 =>
    bo1 (FX13_here w l2) fun x31 =>
    bnd (FX13_isDigit x31) fun x34 =>
    if x34 = true then
      if 4 ≤ l2 then
        FX13_goOnRead_L146 n k w l1 (l2 + 1)
      else
        bo1 (FX13_here w l2) fun x39 =>
        bnd (sW w 15 (sI (w 15) 0 7 (((10 * ((w 15).1 0 7)) + x39) - 48))) fun w41 =>
        FX13_goOnRead_L146 n k w41 l1 (l2 + 1)
    else
      if l2 ≤ 4 then
        FX13_goOnRead_B199 n w l2 2
      else
        FX13_goOnRead_B199 n w l2 4
def FX13_goOnRead_B133 (n : Nat) (w : Wd) (l2 : Int32) (y0 : Int32) : Option (Wd) :=
  bnd (sW w 15 (sI (w 15) 0 6 y0)) fun w49 =>
  FX13_goOnRead_B239 n w49 l2
def FX13_goOnRead_L76 (n : Nat) : Nat → Wd → Int32 → Int32 → Option (Wd)
  | 0 => fun _ _ _ => none
  | k + 1 => fun w l1 l2 =>
    bo1 (FX13_here w l2) fun x44 =>
    bnd (FX13_isLetter x44) fun x47 =>
    if x47 = true then
      if 8 ≤ l2 then
        FX13_goOnRead_L76 n k w l1 (l2 + 1)
      else
        bo1 (FX13_here w l2) fun x52 =>
        bnd (sW w 15 (sL (w 15) 0 12 ((((w 15).2 0 12) <<< ((5 : Int32).toInt64 &&& 63)) ||| (((x52 - 97) + 1).toInt64)))) fun w54 =>
        FX13_goOnRead_L76 n k w54 l1 (l2 + 1)
    else
      if l2 ≤ 8 then
        FX13_goOnRead_B133 n w l2 1
      else
        FX13_goOnRead_B133 n w l2 4
def FX13_goOnRead_L0 (n : Nat) : Nat → Wd → Option (Wd)
  | 0 => fun _ => none
  | k + 1 => fun w  =>
    bo1 (FX13_here w 0) fun x2 =>
    if x2 = 32 then
      bnd (sW w 15 (sI (w 15) 0 4 (((w 15).1 0 4) + 1))) fun w4 =>
      FX13_goOnRead_L0 n k w4 
    else
      bo1 (FX13_here w 0) fun x7 =>
      if x7 = 10 then
        bnd (sW w 15 (sI (w 15) 0 4 (((w 15).1 0 4) + 1))) fun w58 =>
        FX13_goOnRead_L0 n k w58 
      else
        bnd (sW w 15 (sI (w 15) 0 5 ((w 15).1 0 4))) fun w9 =>
        bnd (sW w9 15 (sL (w9 15) 0 12 0)) fun w11 =>
        bnd (sW w11 15 (sI (w11 15) 0 7 0)) fun w13 =>
        bo1 (FX13_here w13 0) fun x16 =>
        if 0 ≤ x16 then
          bnd (FX13_isLetter x16) fun x19 =>
          if x19 = true then
            FX13_goOnRead_L76 n n w13 x16 0
          else
            bnd (FX13_isDigit x16) fun x22 =>
            if x22 = true then
              FX13_goOnRead_L146 n n w13 x16 0
            else
              if x16 = 59 then
                FX13_goOnRead_B224 n w13 x16
              else
                if x16 = 40 then
                  FX13_goOnRead_B224 n w13 x16
                else
                  if x16 = 41 then
                    FX13_goOnRead_B224 n w13 x16
                  else
                    FX13_goOnRead_B229 n w13 x16 4
        else
          bnd (sW w13 15 (sI (w13 15) 0 6 0)) fun w56 =>
          some w56
def FX13_goOnRead (n : Nat) (w : Wd)  : Option (Wd) :=
  FX13_goOnRead_L0 n n w 
def FX13_wrong (w : Wd) (p1 : Int32) : Wd :=
  if (w 15).1 0 8 ≤ 0 then
    if (w 15).1 0 6 = 4 then
      bnd (sW w 15 (sI (w 15) 0 8 1)) fun w5 =>
      bnd (sW w5 15 (sI (w5 15) 0 9 ((w5 15).1 0 5))) fun w7 =>
      w7
    else
      bnd (sW w 15 (sI (w 15) 0 8 p1)) fun w1 =>
      bnd (sW w1 15 (sI (w1 15) 0 9 ((w1 15).1 0 5))) fun w3 =>
      w3
  else
    w
def FX13_isGood (w : Wd)  : Bool :=
  if (w 15).1 0 8 = 0 then
    true
  else
    false
def FX13_isWord (w : Wd) (p1 : Int64) : Bool :=
  if (w 15).1 0 8 = 0 then
    if (w 15).1 0 6 = 1 then
      if lg_cmp ((w 15).2 0 12) p1 = 0 then
        true
      else
        false
    else
      false
  else
    false
def FX13_isSign (w : Wd) (p1 : Int32) : Bool :=
  if (w 15).1 0 8 = 0 then
    if (w 15).1 0 6 = 3 then
      if (w 15).1 0 7 = p1 then
        true
      else
        false
    else
      false
  else
    false
def FX13_mustSign (n : Nat) (w : Wd) (p1 : Int32) : Option (Wd) :=
  bnd (FX13_isGood w) fun x2 =>
  if x2 = true then
    bnd (FX13_isSign w p1) fun x11 =>
    if x11 = true then
      bnd (FX13_isGood w) fun x14 =>
      if x14 = true then
        bo1 (FX13_goOnRead n w) fun w17 =>
        some w17
      else
        some w
    else
      bnd (FX13_wrong w 1) fun w20 =>
      bnd (FX13_isGood w20) fun x23 =>
      if x23 = true then
        bo1 (FX13_goOnRead n w20) fun w26 =>
        some w26
      else
        some w20
  else
    bnd (FX13_isGood w) fun x5 =>
    if x5 = true then
      bo1 (FX13_goOnRead n w) fun w8 =>
      some w8
    else
      some w
def FX13_mustWord (n : Nat) (w : Wd) (p1 : Int64) : Option (Wd) :=
  bnd (FX13_isGood w) fun x2 =>
  if x2 = true then
    bnd (FX13_isWord w p1) fun x11 =>
    if x11 = true then
      bnd (FX13_isGood w) fun x14 =>
      if x14 = true then
        bo1 (FX13_goOnRead n w) fun w17 =>
        some w17
      else
        some w
    else
      bnd (FX13_wrong w 1) fun w20 =>
      bnd (FX13_isGood w20) fun x23 =>
      if x23 = true then
        bo1 (FX13_goOnRead n w20) fun w26 =>
        some w26
      else
        some w20
  else
    bnd (FX13_isGood w) fun x5 =>
    if x5 = true then
      bo1 (FX13_goOnRead n w) fun w8 =>
      some w8
    else
      some w
def FX13_looks (w : Wd) (p1 : Int32) (p2 : Int32) : Int32 × Wd :=
  bnd (FX13_isGood w) fun x2 =>
  if x2 = true then
    if (w 15).1 0 6 = 2 then
      bnd (FX13_isGood w) fun x14 =>
      if x14 = true then
        bnd (FX13_isIn (((w 15).1 0 7).toInt64) p1.toInt64 p2.toInt64) fun x17 =>
        if x17 = true then
          ((w 15).1 0 7, w)
        else
          bnd (FX13_wrong w 2) fun w20 =>
          ((w20 15).1 0 7, w20)
      else
        ((w 15).1 0 7, w)
    else
      bnd (FX13_wrong w 1) fun w23 =>
      bnd (FX13_isGood w23) fun x26 =>
      if x26 = true then
        bnd (FX13_isIn (((w23 15).1 0 7).toInt64) p1.toInt64 p2.toInt64) fun x29 =>
        if x29 = true then
          ((w23 15).1 0 7, w23)
        else
          bnd (FX13_wrong w23 2) fun w32 =>
          ((w32 15).1 0 7, w32)
      else
        ((w23 15).1 0 7, w23)
  else
    bnd (FX13_isGood w) fun x5 =>
    if x5 = true then
      bnd (FX13_isIn (((w 15).1 0 7).toInt64) p1.toInt64 p2.toInt64) fun x8 =>
      if x8 = true then
        ((w 15).1 0 7, w)
      else
        bnd (FX13_wrong w 2) fun w11 =>
        ((w11 15).1 0 7, w11)
    else
      ((w 15).1 0 7, w)
def FX13_number (n : Nat) (w : Wd) (p1 : Int32) (p2 : Int32) : Option (Int32 × Wd) :=
  bnd2 (FX13_looks w p1 p2) fun x2 w3 =>
  bnd (FX13_isGood w3) fun x6 =>
  if x6 = true then
    bo1 (FX13_goOnRead n w3) fun w9 =>
    some (x2, w9)
  else
    some (x2, w3)
def FX13_beginsText (n : Nat) (w : Wd)  : Option (Wd) :=
  bnd (sW w 15 (sI (w 15) 0 3 ((w 15).1 0 2))) fun w1 =>
  bnd (sW w1 15 (sI (w1 15) 0 2 0)) fun w3 =>
  bnd (sW w3 15 (sI (w3 15) 0 4 0)) fun w5 =>
  bnd (sW w5 15 (sI (w5 15) 0 8 0)) fun w7 =>
  bnd (sW w7 15 (sI (w7 15) 0 9 (-1))) fun w9 =>
  bo1 (FX13_goOnRead n w9) fun w12 =>
  some w12
def FX13_endsText (w : Wd)  : Bool × Wd :=
  bnd (sW w 15 (sI (w 15) 0 10 ((w 15).1 0 8))) fun w1 =>
  bnd (sW w1 15 (sI (w1 15) 0 11 ((w1 15).1 0 9))) fun w3 =>
  if (w3 15).1 0 8 = 0 then
    bnd2 (FX13_goes w3 true) fun x10 w11 =>
    (x10, w11)
  else
    bnd2 (FX13_goes w3 false) fun x6 w7 =>
    (x6, w7)
def FX13_errorCode (w : Wd)  : Int32 × Wd :=
  bnd (sW w 15 (sI (w 15) 0 0 0)) fun w1 =>
  ((w1 15).1 0 10, w1)
def FX13_errorOffset (w : Wd)  : Int32 × Wd :=
  bnd (sW w 15 (sI (w 15) 0 0 0)) fun w1 =>
  ((w1 15).1 0 11, w1)
def FX13_bufferName_L21 (n : Nat) : Nat → Wd → Int64 → Int32 → Option (Int64)
  | 0 => fun _ _ _ => none
  | k + 1 => fun w l1 l3 =>
    if (w 15).1 0 2 ≤ l3 then
      some l1
    else
      gd (inb l3 600) <|
      bnd (FX13_isLetter ((w 15).1 1 l3.toNatClampNeg)) fun x6 =>
      if x6 = true then
        gd (inb l3 600) <|
        FX13_bufferName_L21 n k w ((l1 <<< ((5 : Int32).toInt64 &&& 63)) ||| (((((w 15).1 1 l3.toNatClampNeg) - 97) + 1).toInt64)) (l3 + 1)
      else
        some 0
def FX13_bufferName (n : Nat) (w : Wd)  : Option (Int64) :=
  bnd (FX13_isIn (((w 15).1 0 2).toInt64) 1 8) fun x2 =>
  if x2 = true then
    FX13_bufferName_L21 n n w 0 0
  else
    some 0
def FX13_copiesRow_L3 (n : Nat) : Nat → Wd → Nat → Int32 → Nat → Int32 → Int32 → Option (Wd)
  | 0 => fun _ _ _ _ _ _ => none
  | k + 1 => fun w l0 l1 l2 l3 l4 =>
    if 390 ≤ l4 then
      some w
    else
      gd (inb (l1 + l4) (modLen l0)) <|
      gd (inb (l3 + l4) (modLen l2)) <| bnd (sW w 15 (sI (w 15) l2 ((l3 + l4).toNatClampNeg) ((w 15).1 l0 ((l1 + l4).toNatClampNeg)))) fun w3 =>
      FX13_copiesRow_L3 n k w3 l0 l1 l2 l3 (l4 + 1)
def FX13_copiesRow (n : Nat) (w : Wd) (j0 : Nat) (p1 : Int32) (j2 : Nat) (p3 : Int32) : Option (Wd) :=
  FX13_copiesRow_L3 n n w j0 p1 j2 p3 0
def FX13_begins_L2 (n : Nat) : Nat → Wd → Int32 → Option (Wd)
  | 0 => fun _ _ => none
  | k + 1 => fun w l1 =>
    if 390 ≤ l1 then
      some w
    else
      gd (inb l1 390) <| bnd (sW w 15 (sI (w 15) 2 l1.toNatClampNeg 0)) fun w2 =>
      FX13_begins_L2 n k w2 (l1 + 1)
def FX13_begins (n : Nat) (w : Wd)  : Option (Wd) :=
  FX13_begins_L2 n n w 0
def FX13_laysAside (n : Nat) (w : Wd)  : Option (Wd) :=
  bo1 (FX13_copiesRow n w 2 0 4 0) fun w2 =>
  some w2
def FX13_goesBack (n : Nat) (w : Wd)  : Option (Wd) :=
  bo1 (FX13_copiesRow n w 4 0 2 0) fun w2 =>
  some w2
def FX13_holds (n : Nat) (w : Wd)  : Option (Wd) :=
  bo1 (FX13_copiesRow n w 2 0 5 0) fun w2 =>
  some w2
def FX13_putBack (n : Nat) (w : Wd) (p1 : Int32) : Option (Int32 × Wd) :=
  bo1 (FX13_copiesRow n w 5 0 2 0) fun w2 =>
  some (p1, w2)
def FX13_keeps_L21 (n : Nat) : Nat → Wd → Int32 → Option (Wd)
  | 0 => fun _ _ => none
  | k + 1 => fun w l1 =>
    if 390 * ((w 15).1 0 18) ≤ l1 then
      bo1 (FX13_copiesRow n w 4 0 6 (390 * ((w 15).1 0 18))) fun w9 =>
      bnd (sW w9 15 (sI (w9 15) 0 18 (((w9 15).1 0 18) + 1))) fun w11 =>
      some w11
    else
      gd (inb (l1 + 390) 2340) <|
      gd (inb l1 2340) <| bnd (sW w 15 (sI (w 15) 6 l1.toNatClampNeg ((w 15).1 6 ((l1 + 390).toNatClampNeg)))) fun w15 =>
      FX13_keeps_L21 n k w15 (l1 + 1)
def FX13_keeps (n : Nat) (w : Wd)  : Option (Wd) :=
  if (w 15).1 0 18 = 6 then
    bnd (sW w 15 (sI (w 15) 0 18 (((w 15).1 0 18) - 1))) fun w6 =>
    FX13_keeps_L21 n n w6 0
  else
    bo1 (FX13_copiesRow n w 4 0 6 (390 * ((w 15).1 0 18))) fun w2 =>
    bnd (sW w2 15 (sI (w2 15) 0 18 (((w2 15).1 0 18) + 1))) fun w4 =>
    some w4
def FX13_kept (n : Nat) (w : Wd) (p1 : Int32) : Option (Int32 × Wd) :=
  bo1 (FX13_keeps n w) fun w2 =>
  some (p1, w2)
def FX13_undo (n : Nat) (w : Wd)  : Option (Int32 × Wd) :=
  if (w 15).1 0 18 ≤ 0 then
    bnd2 (FX13_goes w false) fun x2 w3 =>
    if x2 = true then
      bnd (sW w3 15 (sI (w3 15) 0 18 (((w3 15).1 0 18) - 1))) fun w5 =>
      bo1 (FX13_copiesRow n w5 6 (390 * ((w5 15).1 0 18)) 2 0) fun w8 =>
      some ((w8 15).1 0 18, w8)
    else
      some (0, w3)
  else
    bnd2 (FX13_goes w true) fun x11 w12 =>
    if x11 = true then
      bnd (sW w12 15 (sI (w12 15) 0 18 (((w12 15).1 0 18) - 1))) fun w14 =>
      bo1 (FX13_copiesRow n w14 6 (390 * ((w14 15).1 0 18)) 2 0) fun w17 =>
      some ((w17 15).1 0 18, w17)
    else
      some (0, w12)
def FX13_saveState (n : Nat) (w : Wd)  : Option (Int32 × Wd) :=
  bnd (sW w 15 (sI (w 15) 0 0 0)) fun w1 =>
  bo1 (FX13_copiesRow n w1 2 0 3 0) fun w4 =>
  bnd (sW w4 15 (sI (w4 15) 0 19 (bI true))) fun w6 =>
  gd (inb 3 390) <|
  some ((w6 15).1 2 3, w6)
def FX13_restoreState (n : Nat) (w : Wd)  : Option (Int32 × Wd) :=
  gd (isB ((w 15).1 0 19)) <|
  bnd2 (FX13_goes w (decide ((w 15).1 0 19 = 1))) fun x3 w4 =>
  if x3 = true then
    bo1 (FX13_copiesRow n w4 3 0 2 0) fun w7 =>
    bnd (sW w7 15 (sI (w7 15) 0 18 0)) fun w9 =>
    gd (inb 3 390) <|
    some ((w9 15).1 2 3, w9)
  else
    some (0, w4)
def FX13_vly (p0 : Int32) : Int32 :=
  8 + (8 * p0)
def FX13_cst (p0 : Int32) : Int32 :=
  72 + (6 * p0)
def FX13_sht (p0 : Int32) : Int32 :=
  120 + (9 * p0)
def FX13_ofValley (w : Wd) (p1 : Int32) (p2 : Int32) : Option (Int32) :=
  bnd (FX13_vly p1) fun x2 =>
  gd (inb (x2 + p2) 390) <|
  some ((w 15).1 2 ((x2 + p2).toNatClampNeg))
def FX13_ofCustomer (w : Wd) (p1 : Int32) (p2 : Int32) : Option (Int32) :=
  bnd (FX13_cst p1) fun x2 =>
  gd (inb (x2 + p2) 390) <|
  some ((w 15).1 2 ((x2 + p2).toNatClampNeg))
def FX13_of (w : Wd) (p1 : Int32) (p2 : Int32) : Option (Int32) :=
  bnd (FX13_sht p1) fun x2 =>
  gd (inb (x2 + p2) 390) <|
  some ((w 15).1 2 ((x2 + p2).toNatClampNeg))
def FX13_isValley (w : Wd) (p1 : Int32) : Option (Bool) :=
  gd (inb 0 390) <|
  bnd (FX13_isIn p1.toInt64 0 ((((w 15).1 2 0) - 1).toInt64)) fun x3 =>
  some x3
def FX13_isCustomer (w : Wd) (p1 : Int32) : Option (Bool) :=
  gd (inb 1 390) <|
  bnd (FX13_isIn p1.toInt64 0 ((((w 15).1 2 1) - 1).toInt64)) fun x3 =>
  some x3
def FX13_isShout0 (w : Wd) (p1 : Int32) : Option (Bool) :=
  gd (inb 2 390) <|
  bnd (FX13_isIn p1.toInt64 0 ((((w 15).1 2 2) - 1).toInt64)) fun x3 =>
  some x3
def FX13_isOpen (w : Wd) (p1 : Int32) : Option (Bool) :=
  bo1 (FX13_isShout0 w p1) fun x2 =>
  if x2 = true then
    bo1 (FX13_of w p1 6) fun x5 =>
    if x5 = 0 then
      some true
    else
      some false
  else
    some false
def FX13_laysName (w : Wd) (p1 : Int32) (p2 : Int64) : Option (Wd) :=
  gd (inb p1 390) <| bnd (sW w 15 (sI (w 15) 2 p1.toNatClampNeg ((p2 >>> ((20 : Int32).toInt64 &&& 63)).toInt32))) fun w2 =>
  gd (inb (p1 + 1) 390) <| bnd (sW w2 15 (sI (w2 15) 2 ((p1 + 1).toNatClampNeg) ((p2 &&& 1048575).toInt32))) fun w5 =>
  some w5
def FX13_nameAt (w : Wd) (p1 : Int32) : Option (Int64) :=
  gd (inb p1 390) <|
  gd (inb (p1 + 1) 390) <|
  some (((((w 15).1 2 p1.toNatClampNeg).toInt64) <<< ((20 : Int32).toInt64 &&& 63)) ||| (((w 15).1 2 ((p1 + 1).toNatClampNeg)).toInt64))
def FX13_nme (p0 : Int32) (p1 : Int32) : Int32 :=
  if p0 = 0 then
    bnd (FX13_vly p1) fun x5 =>
    x5 + 6
  else
    bnd (FX13_cst p1) fun x2 =>
    x2 + 4
def FX13_found_L3 (n : Nat) : Nat → Wd → Int32 → Int64 → Int32 → Option (Int32)
  | 0 => fun _ _ _ _ => none
  | k + 1 => fun w l1 l2 l4 =>
    gd (inb l1 390) <|
    if (w 15).1 2 l1.toNatClampNeg ≤ l4 then
      some (-1)
    else
      if lg_cmp l2 0 = 0 then
        FX13_found_L3 n k w l1 l2 (l4 + 1)
      else
        bnd (FX13_nme l1 l4) fun x3 =>
        bo1 (FX13_nameAt w x3) fun x6 =>
        if lg_cmp x6 l2 = 0 then
          some l4
        else
          FX13_found_L3 n k w l1 l2 (l4 + 1)
def FX13_found (n : Nat) (w : Wd) (p1 : Int32) (p2 : Int64) : Option (Int32) :=
  FX13_found_L3 n n w p1 p2 0
def FX13_left (w : Wd) (p1 : Int32) : Option (Int32) :=
  bo1 (FX13_of w p1 6) fun x2 =>
  if x2 = 0 then
    bo1 (FX13_of w p1 4) fun x5 =>
    bo1 (FX13_of w p1 3) fun x8 =>
    bo1 (FX13_of w p1 7) fun x11 =>
    some (x5 * (x8 - x11))
  else
    some 0
def FX13_heldAll_L4 (n : Nat) : Nat → Wd → Int32 → Int32 → Option (Int32)
  | 0 => fun _ _ _ => none
  | k + 1 => fun w l1 l2 =>
    gd (inb 2 390) <|
    if (w 15).1 2 2 ≤ l2 then
      some l1
    else
      bo1 (FX13_left w l2) fun x3 =>
      FX13_heldAll_L4 n k w (l1 + x3) (l2 + 1)
def FX13_heldAll (n : Nat) (w : Wd)  : Option (Int32) :=
  FX13_heldAll_L4 n n w 0 0
def FX13_heldOf_L4 (n : Nat) : Nat → Wd → Int32 → Int32 → Int32 → Option (Int32)
  | 0 => fun _ _ _ _ => none
  | k + 1 => fun w l1 l2 l3 =>
    gd (inb 2 390) <|
    if (w 15).1 2 2 ≤ l3 then
      some l2
    else
      bo1 (FX13_of w l3 0) fun x3 =>
      if x3 = l1 then
        bo1 (FX13_left w l3) fun x6 =>
        FX13_heldOf_L4 n k w l1 (l2 + x6) (l3 + 1)
      else
        FX13_heldOf_L4 n k w l1 (l2 + 0) (l3 + 1)
def FX13_heldOf (n : Nat) (w : Wd) (p1 : Int32) : Option (Int32) :=
  FX13_heldOf_L4 n n w p1 0 0
def FX13_bits_L4 (n : Nat) : Nat → Int32 → Int32 → Int32 → Option (Int32)
  | 0 => fun _ _ _ => none
  | k + 1 => fun l0 l1 l2 =>
    if l2 = 0 then
      some l1
    else
      FX13_bits_L4 n k l0 (l1 + 1) (l2 &&& (l2 - 1))
def FX13_bits (n : Nat) (p0 : Int32) : Option (Int32) :=
  FX13_bits_L4 n n p0 0 p0
def FX13_receiptOf (n : Nat) (w : Wd) (p1 : Int32) : Option (Int32) :=
  bo1 (FX13_of w p1 4) fun x2 =>
  bo1 (FX13_of w p1 8) fun x5 =>
  bo1 (FX13_bits n x5) fun x8 =>
  some (x2 * x8)
def FX13_hasOpen_L2 (n : Nat) : Nat → Wd → Int32 → Int32 → Int32 → Option (Bool)
  | 0 => fun _ _ _ _ => none
  | k + 1 => fun w l1 l2 l3 =>
    gd (inb 2 390) <|
    if (w 15).1 2 2 ≤ l3 then
      some false
    else
      bo1 (FX13_of w l3 0) fun x3 =>
      if x3 = l1 then
        bo1 (FX13_of w l3 1) fun x6 =>
        if x6 = l2 then
          bo1 (FX13_of w l3 6) fun x9 =>
          if x9 = 0 then
            some true
          else
            FX13_hasOpen_L2 n k w l1 l2 (l3 + 1)
        else
          FX13_hasOpen_L2 n k w l1 l2 (l3 + 1)
      else
        FX13_hasOpen_L2 n k w l1 l2 (l3 + 1)
def FX13_hasOpen (n : Nat) (w : Wd) (p1 : Int32) (p2 : Int32) : Option (Bool) :=
  FX13_hasOpen_L2 n n w p1 p2 0
def FX13_isAngryNow (w : Wd) (p1 : Int32) : Option (Bool) :=
  bo1 (FX13_ofCustomer w p1 2) fun x2 =>
  if x2 < 3 then
    some false
  else
    some true
def FX13_refuses (n : Nat) (w : Wd) (p1 : Int32) (p2 : Int32) (p3 : Int32) : Option (Int32) :=
  gd (inb 2 390) <|
  if (w 15).1 2 2 = 30 then
    some 1
  else
    bo1 (FX13_ofValley w p2 1) fun x3 =>
    if p3 ≤ x3 then
      bo1 (FX13_ofCustomer w p1 1) fun x6 =>
      bo1 (FX13_ofValley w p2 2) fun x9 =>
      if x9 * p3 ≤ x6 then
        bo1 (FX13_hasOpen n w p1 p2) fun x12 =>
        if x12 = true then
          some 4
        else
          bo1 (FX13_isAngryNow w p1) fun x15 =>
          if x15 = true then
            some 5
          else
            some 0
      else
        some 3
    else
      some 2
def FX13_sells (w : Wd) (p1 : Int32) (p2 : Int32) (p3 : Int32) (p4 : Int32) : Option (Int32 × Wd) :=
  gd (inb 2 390) <|
  bnd (FX13_sht ((w 15).1 2 2)) fun x3 =>
  gd (inb (x3 + 0) 390) <| bnd (sW w 15 (sI (w 15) 2 ((x3 + 0).toNatClampNeg) p1)) fun w6 =>
  gd (inb (x3 + 1) 390) <| bnd (sW w6 15 (sI (w6 15) 2 ((x3 + 1).toNatClampNeg) p2)) fun w9 =>
  gd (inb (x3 + 2) 390) <| bnd (sW w9 15 (sI (w9 15) 2 ((x3 + 2).toNatClampNeg) p3)) fun w12 =>
  gd (inb (x3 + 3) 390) <| bnd (sW w12 15 (sI (w12 15) 2 ((x3 + 3).toNatClampNeg) p4)) fun w15 =>
  bo1 (FX13_ofValley w15 p2 2) fun x18 =>
  gd (inb (x3 + 4) 390) <| bnd (sW w15 15 (sI (w15 15) 2 ((x3 + 4).toNatClampNeg) x18)) fun w21 =>
  gd (inb 3 390) <|
  gd (inb (x3 + 5) 390) <| bnd (sW w21 15 (sI (w21 15) 2 ((x3 + 5).toNatClampNeg) ((w21 15).1 2 3))) fun w25 =>
  gd (inb (x3 + 6) 390) <| bnd (sW w25 15 (sI (w25 15) 2 ((x3 + 6).toNatClampNeg) 0)) fun w28 =>
  gd (inb (x3 + 7) 390) <| bnd (sW w28 15 (sI (w28 15) 2 ((x3 + 7).toNatClampNeg) 0)) fun w31 =>
  gd (inb (x3 + 8) 390) <| bnd (sW w31 15 (sI (w31 15) 2 ((x3 + 8).toNatClampNeg) 0)) fun w34 =>
  bnd (FX13_cst p1) fun x37 =>
  gd (inb (x37 + 1) 390) <|
  bo1 (FX13_ofValley w34 p2 2) fun x41 =>
  gd (inb (x37 + 1) 390) <| bnd (sW w34 15 (sI (w34 15) 2 ((x37 + 1).toNatClampNeg) (((w34 15).1 2 ((x37 + 1).toNatClampNeg)) - (x41 * p4)))) fun w44 =>
  gd (inb 2 390) <|
  gd (inb 2 390) <| bnd (sW w44 15 (sI (w44 15) 2 2 (((w44 15).1 2 2) + 1))) fun w48 =>
  gd (inb 2 390) <|
  some (((w48 15).1 2 2) - 1, w48)
def FX13_refunds (w : Wd) (p1 : Int32) (p2 : Int32) : Option (Wd) :=
  gd (inb 5 390) <|
  gd (inb 5 390) <| bnd (sW w 15 (sI (w 15) 2 5 (((w 15).1 2 5) + p2))) fun w3 =>
  bo1 (FX13_of w3 p1 0) fun x6 =>
  bnd (FX13_cst x6) fun x9 =>
  gd (inb (x9 + 1) 390) <|
  gd (inb (x9 + 1) 390) <| bnd (sW w3 15 (sI (w3 15) 2 ((x9 + 1).toNatClampNeg) (((w3 15).1 2 ((x9 + 1).toNatClampNeg)) + p2))) fun w13 =>
  some w13
def FX13_hears (w : Wd) (p1 : Int32) : Option (Wd) :=
  bo1 (FX13_of w p1 1) fun x2 =>
  bnd (FX13_vly x2) fun x5 =>
  gd (inb 4 390) <|
  bo1 (FX13_of w p1 4) fun x9 =>
  gd (inb 4 390) <| bnd (sW w 15 (sI (w 15) 2 4 (((w 15).1 2 4) + x9))) fun w12 =>
  gd (inb (x5 + 4) 390) <|
  gd (inb (x5 + 4) 390) <| bnd (sW w12 15 (sI (w12 15) 2 ((x5 + 4).toNatClampNeg) (((w12 15).1 2 ((x5 + 4).toNatClampNeg)) + 1))) fun w16 =>
  bo1 (FX13_of w16 p1 0) fun x19 =>
  bnd (FX13_cst x19) fun x22 =>
  gd (inb (x22 + 3) 390) <|
  gd (inb (x22 + 3) 390) <| bnd (sW w16 15 (sI (w16 15) 2 ((x22 + 3).toNatClampNeg) (((w16 15).1 2 ((x22 + 3).toNatClampNeg)) + 1))) fun w26 =>
  bnd (FX13_sht p1) fun x29 =>
  gd (inb (x29 + 8) 390) <|
  bo1 (FX13_of w26 p1 7) fun x33 =>
  gd (inb (x29 + 8) 390) <| bnd (sW w26 15 (sI (w26 15) 2 ((x29 + 8).toNatClampNeg) (((w26 15).1 2 ((x29 + 8).toNatClampNeg)) ||| (1 <<< (x33 &&& 31))))) fun w36 =>
  some w36
def FX13_loses (w : Wd) (p1 : Int32) : Option (Wd) :=
  bo1 (FX13_of w p1 1) fun x2 =>
  bnd (FX13_vly x2) fun x5 =>
  bo1 (FX13_of w p1 4) fun x8 =>
  bo1 (FX13_refunds w p1 x8) fun w11 =>
  gd (inb (x5 + 5) 390) <|
  gd (inb (x5 + 5) 390) <| bnd (sW w11 15 (sI (w11 15) 2 ((x5 + 5).toNatClampNeg) (((w11 15).1 2 ((x5 + 5).toNatClampNeg)) + 1))) fun w15 =>
  gd (inb (x5 + 4) 390) <|
  if 2 ≤ (w15 15).1 2 ((x5 + 4).toNatClampNeg) then
    gd (inb (x5 + 4) 390) <|
    gd (inb (x5 + 4) 390) <| bnd (sW w15 15 (sI (w15 15) 2 ((x5 + 4).toNatClampNeg) (((w15 15).1 2 ((x5 + 4).toNatClampNeg)) - 2))) fun w20 =>
    some w20
  else
    gd (inb (x5 + 4) 390) <| bnd (sW w15 15 (sI (w15 15) 2 ((x5 + 4).toNatClampNeg) 0)) fun w23 =>
    some w23
def FX13_comesBack (w : Wd) (p1 : Int32) (p2 : Int32) : Option (Bool × Wd) :=
  if p2 < 1 then
    bo1 (FX13_loses w p1) fun w2 =>
    bnd (FX13_sht p1) fun x5 =>
    gd (inb (x5 + 7) 390) <|
    gd (inb (x5 + 7) 390) <| bnd (sW w2 15 (sI (w2 15) 2 ((x5 + 7).toNatClampNeg) (((w2 15).1 2 ((x5 + 7).toNatClampNeg)) + 1))) fun w9 =>
    bo1 (FX13_of w9 p1 7) fun x12 =>
    bo1 (FX13_of w9 p1 3) fun x15 =>
    if x12 = x15 then
      bnd (FX13_sht p1) fun x18 =>
      gd (inb (x18 + 6) 390) <| bnd (sW w9 15 (sI (w9 15) 2 ((x18 + 6).toNatClampNeg) 1)) fun w21 =>
      some (false, w21)
    else
      some (false, w9)
  else
    bo1 (FX13_hears w p1) fun w24 =>
    bnd (FX13_sht p1) fun x27 =>
    gd (inb (x27 + 7) 390) <|
    gd (inb (x27 + 7) 390) <| bnd (sW w24 15 (sI (w24 15) 2 ((x27 + 7).toNatClampNeg) (((w24 15).1 2 ((x27 + 7).toNatClampNeg)) + 1))) fun w31 =>
    bo1 (FX13_of w31 p1 7) fun x34 =>
    bo1 (FX13_of w31 p1 3) fun x37 =>
    if x34 = x37 then
      bnd (FX13_sht p1) fun x40 =>
      gd (inb (x40 + 6) 390) <| bnd (sW w31 15 (sI (w31 15) 2 ((x40 + 6).toNatClampNeg) 1)) fun w43 =>
      some (true, w43)
    else
      some (true, w31)
def FX13_cancels (w : Wd) (p1 : Int32) : Option (Int32 × Wd) :=
  bo1 (FX13_left w p1) fun x2 =>
  bnd (FX13_sht p1) fun x5 =>
  gd (inb (x5 + 6) 390) <| bnd (sW w 15 (sI (w 15) 2 ((x5 + 6).toNatClampNeg) 2)) fun w8 =>
  bo1 (FX13_refunds w8 p1 x2) fun w11 =>
  some (x2, w11)
def FX13_cancelsAll_L2 (n : Nat) : Nat → Wd → Int32 → Int32 → Option (Wd)
  | 0 => fun _ _ _ => none
  | k + 1 => fun w l1 l2 =>
    gd (inb 2 390) <|
    if (w 15).1 2 2 ≤ l2 then
      some w
    else
      bo1 (FX13_of w l2 0) fun x3 =>
      if x3 = l1 then
        bo1 (FX13_isOpen w l2) fun x6 =>
        if x6 = true then
          bo2 (FX13_cancels w l2) fun x9 w10 =>
          bnd (sW w10 15 (sI (w10 15) 0 31 x9)) fun w12 =>
          FX13_cancelsAll_L2 n k w12 l1 (l2 + 1)
        else
          FX13_cancelsAll_L2 n k w l1 (l2 + 1)
      else
        FX13_cancelsAll_L2 n k w l1 (l2 + 1)
def FX13_cancelsAll (n : Nat) (w : Wd) (p1 : Int32) : Option (Wd) :=
  FX13_cancelsAll_L2 n n w p1 0
def FX13_fakes (n : Nat) (w : Wd) (p1 : Int32) : Option (Int32 × Wd) :=
  bo1 (FX13_of w p1 0) fun x2 =>
  gd (inb 6 390) <|
  bo2 (FX13_comesBack w p1 ((w 15).1 2 6)) fun x6 w7 =>
  bnd (FX13_cst x2) fun x10 =>
  gd (inb (x10 + 2) 390) <|
  bnd (FX13_truth x6) fun x14 =>
  gd (inb (x10 + 2) 390) <| bnd (sW w7 15 (sI (w7 15) 2 ((x10 + 2).toNatClampNeg) (((w7 15).1 2 ((x10 + 2).toNatClampNeg)) + x14))) fun w17 =>
  bo1 (FX13_isAngryNow w17 x2) fun x20 =>
  if x20 = true then
    bo1 (FX13_cancelsAll n w17 x2) fun w26 =>
    bo1 (FX13_ofCustomer w26 x2 2) fun x29 =>
    some (x29, w26)
  else
    bo1 (FX13_ofCustomer w17 x2 2) fun x23 =>
    some (x23, w17)
def FX13_returnsAt (w : Wd) (p1 : Int32) : Option (Int32) :=
  bo1 (FX13_of w p1 5) fun x2 =>
  bo1 (FX13_of w p1 1) fun x5 =>
  bo1 (FX13_ofValley w x5 0) fun x8 =>
  bo1 (FX13_of w p1 7) fun x11 =>
  some (x2 + (x8 * (x11 + 1)))
def FX13_endsAt (w : Wd) (p1 : Int32) : Option (Int32) :=
  bo1 (FX13_of w p1 5) fun x2 =>
  bo1 (FX13_of w p1 0) fun x5 =>
  bo1 (FX13_ofCustomer w x5 0) fun x8 =>
  some (x2 + x8)
def FX13_loudnessOf (w : Wd) (p1 : Int32) : Option (Int32) :=
  bo1 (FX13_of w p1 2) fun x2 =>
  bo1 (FX13_of w p1 7) fun x5 =>
  bo1 (FX13_of w p1 1) fun x8 =>
  bo1 (FX13_ofValley w x8 3) fun x11 =>
  some ((x2 - (2 * (x5 + 1))) - x11)
def FX13_returnsNow_L4 (n : Nat) : Nat → Wd → Int32 → Int32 → Option (Int32 × Wd)
  | 0 => fun _ _ _ => none
  | k + 1 => fun w l1 l2 =>
    gd (inb 2 390) <|
    if (w 15).1 2 2 ≤ l2 then
      some (l1, w)
    else
      bo1 (FX13_isOpen w l2) fun x3 =>
      if x3 = true then
        bo1 (FX13_returnsAt w l2) fun x6 =>
        gd (inb 3 390) <|
        if x6 = (w 15).1 2 3 then
          bo1 (FX13_loudnessOf w l2) fun x10 =>
          bo2 (FX13_comesBack w l2 x10) fun x13 w14 =>
          bnd (sW w14 15 (sI (w14 15) 0 20 (bI x13))) fun w16 =>
          FX13_returnsNow_L4 n k w16 (l1 + 1) (l2 + 1)
        else
          FX13_returnsNow_L4 n k w l1 (l2 + 1)
      else
        FX13_returnsNow_L4 n k w l1 (l2 + 1)
def FX13_returnsNow (n : Nat) (w : Wd)  : Option (Int32 × Wd) :=
  FX13_returnsNow_L4 n n w 0 0
def FX13_losesPatience_L2 (n : Nat) : Nat → Wd → Int32 → Option (Wd)
  | 0 => fun _ _ => none
  | k + 1 => fun w l1 =>
    gd (inb 2 390) <|
    if (w 15).1 2 2 ≤ l1 then
      some w
    else
      bo1 (FX13_isOpen w l1) fun x3 =>
      if x3 = true then
        bo1 (FX13_endsAt w l1) fun x6 =>
        gd (inb 3 390) <|
        if x6 = (w 15).1 2 3 then
          bo2 (FX13_cancels w l1) fun x10 w11 =>
          bnd (sW w11 15 (sI (w11 15) 0 31 x10)) fun w13 =>
          FX13_losesPatience_L2 n k w13 (l1 + 1)
        else
          FX13_losesPatience_L2 n k w (l1 + 1)
      else
        FX13_losesPatience_L2 n k w (l1 + 1)
def FX13_losesPatience (n : Nat) (w : Wd)  : Option (Wd) :=
  FX13_losesPatience_L2 n n w 0
def FX13_passesOne (n : Nat) (w : Wd)  : Option (Int32 × Wd) :=
  gd (inb 3 390) <|
  gd (inb 3 390) <| bnd (sW w 15 (sI (w 15) 2 3 (((w 15).1 2 3) + 1))) fun w3 =>
  bo2 (FX13_returnsNow n w3) fun x6 w7 =>
  bo1 (FX13_losesPatience n w7) fun w10 =>
  some (x6, w10)
def FX13_passes_L4 (n : Nat) : Nat → Wd → Int32 → Int32 → Int32 → Option (Int32 × Wd)
  | 0 => fun _ _ _ _ => none
  | k + 1 => fun w l1 l2 l3 =>
    if l1 ≤ l3 then
      some (l2, w)
    else
      bo2 (FX13_passesOne n w) fun x2 w3 =>
      FX13_passes_L4 n k w3 l1 (l2 + x2) (l3 + 1)
def FX13_passes (n : Nat) (w : Wd) (p1 : Int32) : Option (Int32 × Wd) :=
  FX13_passes_L4 n n w p1 0 0
def FX13_isWidth (p0 : Int32) : Bool :=
  bnd (FX13_isIn p0.toInt64 1 60) fun x2 =>
  x2
def FX13_areWalls (p0 : Int32) : Bool :=
  bnd (FX13_isIn p0.toInt64 1 4) fun x2 =>
  x2
def FX13_isPrice (p0 : Int32) : Bool :=
  bnd (FX13_isIn p0.toInt64 1 99) fun x2 =>
  x2
def FX13_isFog (p0 : Int32) : Bool :=
  bnd (FX13_isIn p0.toInt64 0 9) fun x2 =>
  x2
def FX13_isPatience (p0 : Int32) : Bool :=
  bnd (FX13_isIn p0.toInt64 1 240) fun x2 =>
  x2
def FX13_isMoney (p0 : Int32) : Bool :=
  bnd (FX13_isIn p0.toInt64 0 9999) fun x2 =>
  x2
def FX13_isLoud (p0 : Int32) : Bool :=
  bnd (FX13_isIn p0.toInt64 1 20) fun x2 =>
  x2
def FX13_isDepth (p0 : Int32) : Bool :=
  bnd (FX13_isIn p0.toInt64 0 20) fun x2 =>
  x2
def FX13_mayPass (w : Wd) (p1 : Int32) : Option (Bool) :=
  gd (inb 3 390) <|
  if 9999 < ((w 15).1 2 3) + p1 then
    some false
  else
    some true
def FX13_addsValley (w : Wd) (p1 : Int64) (p3 : Int32) (p4 : Int32) (p5 : Int32) : Option (Int32 × Wd) :=
  gd (inb 0 390) <|
  bnd (FX13_vly ((w 15).1 2 0)) fun x3 =>
  gd (inb (x3 + 0) 390) <| bnd (sW w 15 (sI (w 15) 2 ((x3 + 0).toNatClampNeg) p3)) fun w6 =>
  gd (inb (x3 + 1) 390) <| bnd (sW w6 15 (sI (w6 15) 2 ((x3 + 1).toNatClampNeg) p4)) fun w9 =>
  gd (inb (x3 + 2) 390) <| bnd (sW w9 15 (sI (w9 15) 2 ((x3 + 2).toNatClampNeg) p5)) fun w12 =>
  gd (inb (x3 + 3) 390) <| bnd (sW w12 15 (sI (w12 15) 2 ((x3 + 3).toNatClampNeg) 0)) fun w15 =>
  gd (inb (x3 + 4) 390) <| bnd (sW w15 15 (sI (w15 15) 2 ((x3 + 4).toNatClampNeg) 10)) fun w18 =>
  gd (inb (x3 + 5) 390) <| bnd (sW w18 15 (sI (w18 15) 2 ((x3 + 5).toNatClampNeg) 0)) fun w21 =>
  bo1 (FX13_laysName w21 (x3 + 6) p1) fun w24 =>
  gd (inb 0 390) <|
  gd (inb 0 390) <| bnd (sW w24 15 (sI (w24 15) 2 0 (((w24 15).1 2 0) + 1))) fun w28 =>
  gd (inb 0 390) <|
  some (((w28 15).1 2 0) - 1, w28)
def FX13_addsCustomer (w : Wd) (p1 : Int64) (p3 : Int32) (p4 : Int32) : Option (Int32 × Wd) :=
  gd (inb 1 390) <|
  bnd (FX13_cst ((w 15).1 2 1)) fun x3 =>
  gd (inb (x3 + 0) 390) <| bnd (sW w 15 (sI (w 15) 2 ((x3 + 0).toNatClampNeg) p3)) fun w6 =>
  gd (inb (x3 + 1) 390) <| bnd (sW w6 15 (sI (w6 15) 2 ((x3 + 1).toNatClampNeg) p4)) fun w9 =>
  gd (inb (x3 + 2) 390) <| bnd (sW w9 15 (sI (w9 15) 2 ((x3 + 2).toNatClampNeg) 0)) fun w12 =>
  gd (inb (x3 + 3) 390) <| bnd (sW w12 15 (sI (w12 15) 2 ((x3 + 3).toNatClampNeg) 0)) fun w15 =>
  bo1 (FX13_laysName w15 (x3 + 4) p1) fun w18 =>
  gd (inb 1 390) <|
  gd (inb 1 390) <| bnd (sW w18 15 (sI (w18 15) 2 1 (((w18 15).1 2 1) + 1))) fun w22 =>
  gd (inb 7 390) <|
  gd (inb 7 390) <| bnd (sW w22 15 (sI (w22 15) 2 7 (((w22 15).1 2 7) + p4))) fun w26 =>
  gd (inb 1 390) <|
  some (((w26 15).1 2 1) - 1, w26)
def FX13_sets (w : Wd) (p1 : Int32) (p2 : Int32) : Option (Int32 × Wd) :=
  gd (inb p1 390) <|
  gd (inb p1 390) <| bnd (sW w 15 (sI (w 15) 2 p1.toNatClampNeg p2)) fun w3 =>
  some ((w 15).1 2 p1.toNatClampNeg, w3)
def FX13_isNew (n : Nat) (w : Wd) (p1 : Int32) (p2 : Int64) : Option (Bool) :=
  if lg_cmp p2 0 = 0 then
    some false
  else
    bo1 (FX13_found n w p1 p2) fun x2 =>
    if x2 = (-1) then
      gd (inb p1 390) <|
      if 8 ≤ (w 15).1 2 p1.toNatClampNeg then
        some false
      else
        some true
    else
      some false
def FX13_addValley (n : Nat) (w : Wd) (p1 : Int32) (p2 : Int32) (p3 : Int32) : Option (Int32 × Wd) :=
  bo1 (FX13_bufferName n w) fun x2 =>
  bnd (FX13_isWidth p1) fun x5 =>
  if x5 = true then
    bnd (FX13_areWalls p2) fun x28 =>
    if x28 = true then
      bnd (FX13_isPrice p3) fun x51 =>
      if x51 = true then
        bo1 (FX13_isNew n w 0 x2) fun x74 =>
        bnd2 (FX13_goesBoth w true x74) fun x77 w78 =>
        if x77 = true then
          bo1 (FX13_laysAside n w78) fun w81 =>
          bnd (sW w81 15 (sI (w81 15) 0 2 0)) fun w83 =>
          bo2 (FX13_addsValley w83 x2 p1 p2 p3) fun x86 w87 =>
          bo2 (FX13_kept n w87 x86) fun x90 w91 =>
          some (x90, w91)
        else
          some (0, w78)
      else
        bo1 (FX13_isNew n w 0 x2) fun x54 =>
        bnd2 (FX13_goesBoth w false x54) fun x57 w58 =>
        if x57 = true then
          bo1 (FX13_laysAside n w58) fun w61 =>
          bnd (sW w61 15 (sI (w61 15) 0 2 0)) fun w63 =>
          bo2 (FX13_addsValley w63 x2 p1 p2 p3) fun x66 w67 =>
          bo2 (FX13_kept n w67 x66) fun x70 w71 =>
          some (x70, w71)
        else
          some (0, w58)
    else
      bo1 (FX13_isNew n w 0 x2) fun x31 =>
      bnd2 (FX13_goesBoth w false x31) fun x34 w35 =>
      if x34 = true then
        bo1 (FX13_laysAside n w35) fun w38 =>
        bnd (sW w38 15 (sI (w38 15) 0 2 0)) fun w40 =>
        bo2 (FX13_addsValley w40 x2 p1 p2 p3) fun x43 w44 =>
        bo2 (FX13_kept n w44 x43) fun x47 w48 =>
        some (x47, w48)
      else
        some (0, w35)
  else
    bo1 (FX13_isNew n w 0 x2) fun x8 =>
    bnd2 (FX13_goesBoth w false x8) fun x11 w12 =>
    if x11 = true then
      bo1 (FX13_laysAside n w12) fun w15 =>
      bnd (sW w15 15 (sI (w15 15) 0 2 0)) fun w17 =>
      bo2 (FX13_addsValley w17 x2 p1 p2 p3) fun x20 w21 =>
      bo2 (FX13_kept n w21 x20) fun x24 w25 =>
      some (x24, w25)
    else
      some (0, w12)
def FX13_addCustomer (n : Nat) (w : Wd) (p1 : Int32) (p2 : Int32) : Option (Int32 × Wd) :=
  bo1 (FX13_bufferName n w) fun x2 =>
  bnd (FX13_isPatience p1) fun x5 =>
  if x5 = true then
    bnd (FX13_isMoney p2) fun x28 =>
    if x28 = true then
      bo1 (FX13_isNew n w 1 x2) fun x51 =>
      bnd2 (FX13_goesBoth w true x51) fun x54 w55 =>
      if x54 = true then
        bo1 (FX13_laysAside n w55) fun w58 =>
        bnd (sW w58 15 (sI (w58 15) 0 2 0)) fun w60 =>
        bo2 (FX13_addsCustomer w60 x2 p1 p2) fun x63 w64 =>
        bo2 (FX13_kept n w64 x63) fun x67 w68 =>
        some (x67, w68)
      else
        some (0, w55)
    else
      bo1 (FX13_isNew n w 1 x2) fun x31 =>
      bnd2 (FX13_goesBoth w false x31) fun x34 w35 =>
      if x34 = true then
        bo1 (FX13_laysAside n w35) fun w38 =>
        bnd (sW w38 15 (sI (w38 15) 0 2 0)) fun w40 =>
        bo2 (FX13_addsCustomer w40 x2 p1 p2) fun x43 w44 =>
        bo2 (FX13_kept n w44 x43) fun x47 w48 =>
        some (x47, w48)
      else
        some (0, w35)
  else
    bo1 (FX13_isNew n w 1 x2) fun x8 =>
    bnd2 (FX13_goesBoth w false x8) fun x11 w12 =>
    if x11 = true then
      bo1 (FX13_laysAside n w12) fun w15 =>
      bnd (sW w15 15 (sI (w15 15) 0 2 0)) fun w17 =>
      bo2 (FX13_addsCustomer w17 x2 p1 p2) fun x20 w21 =>
      bo2 (FX13_kept n w21 x20) fun x24 w25 =>
      some (x24, w25)
    else
      some (0, w12)
def FX13_shout_B76 (n : Nat) (w : Wd) (l1 : Int32) (l2 : Int32) (l3 : Int32) (l4 : Int32) (y0 : Bool) (y1 : Bool) (y2 : Bool) : Option (Int32 × Wd) :=
  bnd2 (FX13_goesThree w y2 y1 y0) fun x8 w9 =>
  if x8 = true then
    bo1 (FX13_laysAside n w9) fun w12 =>
    bo2 (FX13_sells w12 l1 l2 l3 l4) fun x15 w16 =>
    bo2 (FX13_kept n w16 x15) fun x19 w20 =>
    some (x19, w20)
  else
    some (0, w9)
def FX13_shout_B75 (n : Nat) (w : Wd) (l1 : Int32) (l2 : Int32) (l3 : Int32) (l4 : Int32) (y0 : Bool) (y1 : Bool) : Option (Int32 × Wd) :=
  FX13_shout_B76 n w l1 l2 l3 l4 false y0 y1
def FX13_shout_B43 (n : Nat) (w : Wd) (l1 : Int32) (l2 : Int32) (l3 : Int32) (l4 : Int32) (l5 : Bool) (y0 : Bool) : Option (Int32 × Wd) :=
  if l5 = true then
    if y0 = true then
      bo1 (FX13_refuses n w l1 l2 l4) fun x23 =>
      if x23 = 0 then
        FX13_shout_B76 n w l1 l2 l3 l4 true y0 l5
      else
        FX13_shout_B75 n w l1 l2 l3 l4 y0 l5
    else
      FX13_shout_B75 n w l1 l2 l3 l4 y0 l5
  else
    FX13_shout_B75 n w l1 l2 l3 l4 y0 l5
def FX13_shout_B42 (n : Nat) (w : Wd) (l1 : Int32) (l2 : Int32) (l3 : Int32) (l4 : Int32) (l5 : Bool) : Option (Int32 × Wd) :=
  FX13_shout_B43 n w l1 l2 l3 l4 l5 false
def FX13_shout_B21 (n : Nat) (w : Wd) (l1 : Int32) (l2 : Int32) (l3 : Int32) (l4 : Int32) (y0 : Bool) : Option (Int32 × Wd) :=
  bnd (FX13_isLoud l3) fun x5 =>
  if x5 = true then
    bnd (FX13_areWalls l4) fun x26 =>
    if x26 = true then
      FX13_shout_B43 n w l1 l2 l3 l4 y0 true
    else
      FX13_shout_B42 n w l1 l2 l3 l4 y0
  else
    FX13_shout_B42 n w l1 l2 l3 l4 y0
def FX13_shout_B20 (n : Nat) (w : Wd) (l1 : Int32) (l2 : Int32) (l3 : Int32) (l4 : Int32) : Option (Int32 × Wd) :=
  FX13_shout_B21 n w l1 l2 l3 l4 false
def FX13_shout (n : Nat) (w : Wd) (p1 : Int32) (p2 : Int32) (p3 : Int32) (p4 : Int32) : Option (Int32 × Wd) :=
  bo1 (FX13_isCustomer w p1) fun x2 =>
  if x2 = true then
    bo1 (FX13_isValley w p2) fun x29 =>
    if x29 = true then
      FX13_shout_B21 n w p1 p2 p3 p4 true
    else
      FX13_shout_B20 n w p1 p2 p3 p4
  else
    FX13_shout_B20 n w p1 p2 p3 p4
def FX13_cancel (n : Nat) (w : Wd) (p1 : Int32) : Option (Int32 × Wd) :=
  bo1 (FX13_isShout0 w p1) fun x2 =>
  bo1 (FX13_isOpen w p1) fun x5 =>
  bnd2 (FX13_goesBoth w x2 x5) fun x8 w9 =>
  if x8 = true then
    bo1 (FX13_laysAside n w9) fun w12 =>
    bo2 (FX13_cancels w12 p1) fun x15 w16 =>
    bo2 (FX13_kept n w16 x15) fun x19 w20 =>
    some (x19, w20)
  else
    some (0, w9)
def FX13_fake (n : Nat) (w : Wd) (p1 : Int32) : Option (Int32 × Wd) :=
  bo1 (FX13_isShout0 w p1) fun x2 =>
  bo1 (FX13_isOpen w p1) fun x5 =>
  bnd2 (FX13_goesBoth w x2 x5) fun x8 w9 =>
  if x8 = true then
    bo1 (FX13_laysAside n w9) fun w12 =>
    bo2 (FX13_fakes n w12 p1) fun x15 w16 =>
    bo2 (FX13_kept n w16 x15) fun x19 w20 =>
    some (x19, w20)
  else
    some (0, w9)
def FX13_setFog (n : Nat) (w : Wd) (p1 : Int32) (p2 : Int32) : Option (Int32 × Wd) :=
  bo1 (FX13_isValley w p1) fun x2 =>
  bnd (FX13_isFog p2) fun x5 =>
  bnd2 (FX13_goesBoth w x2 x5) fun x8 w9 =>
  if x8 = true then
    bo1 (FX13_laysAside n w9) fun w12 =>
    bnd (FX13_vly p1) fun x15 =>
    bo2 (FX13_sets w12 (x15 + 3) p2) fun x18 w19 =>
    bo2 (FX13_kept n w19 x18) fun x22 w23 =>
    some (x22, w23)
  else
    some (0, w9)
def FX13_setPrice (n : Nat) (w : Wd) (p1 : Int32) (p2 : Int32) : Option (Int32 × Wd) :=
  bo1 (FX13_isValley w p1) fun x2 =>
  bnd (FX13_isPrice p2) fun x5 =>
  bnd2 (FX13_goesBoth w x2 x5) fun x8 w9 =>
  if x8 = true then
    bo1 (FX13_laysAside n w9) fun w12 =>
    bnd (FX13_vly p1) fun x15 =>
    bo2 (FX13_sets w12 (x15 + 2) p2) fun x18 w19 =>
    bo2 (FX13_kept n w19 x18) fun x22 w23 =>
    some (x22, w23)
  else
    some (0, w9)
def FX13_setWell (n : Nat) (w : Wd) (p1 : Int32) : Option (Int32 × Wd) :=
  bnd (FX13_isDepth p1) fun x2 =>
  bnd2 (FX13_goes w x2) fun x5 w6 =>
  if x5 = true then
    bo1 (FX13_laysAside n w6) fun w9 =>
    bo2 (FX13_sets w9 6 p1) fun x12 w13 =>
    bo2 (FX13_kept n w13 x12) fun x16 w17 =>
    some (x16, w17)
  else
    some (0, w6)
def FX13_pass (n : Nat) (w : Wd) (p1 : Int32) : Option (Int32 × Wd) :=
  bnd (FX13_isPatience p1) fun x2 =>
  bnd (FX13_isPatience p1) fun x5 =>
  if x5 = true then
    bo1 (FX13_mayPass w p1) fun x23 =>
    if x23 = true then
      bnd2 (FX13_goesBoth w x2 true) fun x41 w42 =>
      if x41 = true then
        bo1 (FX13_laysAside n w42) fun w45 =>
        bo2 (FX13_passes n w45 p1) fun x48 w49 =>
        bo2 (FX13_kept n w49 x48) fun x52 w53 =>
        some (x52, w53)
      else
        some (0, w42)
    else
      bnd2 (FX13_goesBoth w x2 false) fun x26 w27 =>
      if x26 = true then
        bo1 (FX13_laysAside n w27) fun w30 =>
        bo2 (FX13_passes n w30 p1) fun x33 w34 =>
        bo2 (FX13_kept n w34 x33) fun x37 w38 =>
        some (x37, w38)
      else
        some (0, w27)
  else
    bnd2 (FX13_goesBoth w x2 false) fun x8 w9 =>
    if x8 = true then
      bo1 (FX13_laysAside n w9) fun w12 =>
      bo2 (FX13_passes n w12 p1) fun x15 w16 =>
      bo2 (FX13_kept n w16 x15) fun x19 w20 =>
      some (x19, w20)
    else
      some (0, w9)
def FX13_more (n : Nat) (w : Wd) (p1 : Int32) (p2 : Int32) : Option (Int32 × Wd) :=
  bnd (FX13_isGood w) fun x2 =>
  if x2 = true then
    bo2 (FX13_number n w p1 p2) fun x5 w6 =>
    some (x5, w6)
  else
    some (p1, w)
def FX13_valleyRest (n : Nat) (w : Wd) (p1 : Int64) : Option (Wd) :=
  bo2 (FX13_more n w 1 60) fun x2 w3 =>
  bo2 (FX13_more n w3 1 4) fun x6 w7 =>
  bo2 (FX13_more n w7 1 99) fun x10 w11 =>
  bnd (FX13_isGood w11) fun x14 =>
  if x14 = true then
    bo2 (FX13_addsValley w11 p1 x2 x6 x10) fun x17 w18 =>
    bnd (sW w18 15 (sI (w18 15) 0 31 x17)) fun w20 =>
    some w20
  else
    some w11
def FX13_customerRest (n : Nat) (w : Wd) (p1 : Int64) : Option (Wd) :=
  bo2 (FX13_more n w 1 240) fun x2 w3 =>
  bo2 (FX13_more n w3 0 9999) fun x6 w7 =>
  bnd (FX13_isGood w7) fun x10 =>
  if x10 = true then
    bo2 (FX13_addsCustomer w7 p1 x2 x6) fun x13 w14 =>
    bnd (sW w14 15 (sI (w14 15) 0 31 x13)) fun w16 =>
    some w16
  else
    some w7
def FX13_newLine_B88 (n : Nat) (w : Wd) (l1 : Int32) (l2 : Int64) : Option (Wd) :=
  if l1 = 0 then
    bo1 (FX13_valleyRest n w l2) fun w18 =>
    some w18
  else
    bo1 (FX13_customerRest n w l2) fun w15 =>
    some w15
def FX13_newLine_B72 (n : Nat) (w : Wd) (l1 : Int32) : Option (Wd) :=
  bnd (FX13_isGood w) fun x12 =>
  if x12 = true then
    bo1 (FX13_goOnRead n w) fun w21 =>
    FX13_newLine_B88 n w21 l1 ((w 15).2 0 12)
  else
    FX13_newLine_B88 n w l1 ((w 15).2 0 12)
def FX13_newLine_B47 (n : Nat) (w : Wd) (l1 : Int32) : Option (Wd) :=
  bnd (FX13_isGood w) fun x9 =>
  if x9 = true then
    bo1 (FX13_found n w l1 ((w 15).2 0 12)) fun x24 =>
    if x24 = (-1) then
      FX13_newLine_B72 n w l1
    else
      bnd (FX13_wrong w 3) fun w27 =>
      FX13_newLine_B72 n w27 l1
  else
    FX13_newLine_B72 n w l1
def FX13_newLine_B27 (n : Nat) (w : Wd) (l1 : Int32) : Option (Wd) :=
  bnd (FX13_isGood w) fun x6 =>
  if x6 = true then
    if (w 15).1 0 6 = 1 then
      FX13_newLine_B47 n w l1
    else
      bnd (FX13_wrong w 1) fun w30 =>
      FX13_newLine_B47 n w30 l1
  else
    FX13_newLine_B47 n w l1
def FX13_newLine_B16 (n : Nat) (w : Wd) (l1 : Int32) : Option (Wd) :=
  bnd (FX13_isGood w) fun x3 =>
  if x3 = true then
    bo1 (FX13_goOnRead n w) fun w33 =>
    FX13_newLine_B27 n w33 l1
  else
    FX13_newLine_B27 n w l1
def FX13_newLine (n : Nat) (w : Wd) (p1 : Int32) : Option (Wd) :=
  gd (inb p1 390) <|
  if (w 15).1 2 p1.toNatClampNeg = 8 then
    bnd (FX13_wrong w 5) fun w36 =>
    FX13_newLine_B16 n w36 p1
  else
    FX13_newLine_B16 n w p1
def FX13_nameHere_B58 (n : Nat) (w : Wd) (l2 : Int32) : Option (Int32 × Wd) :=
  bnd (FX13_isGood w) fun x11 =>
  if x11 = true then
    bo1 (FX13_goOnRead n w) fun w14 =>
    some (l2, w14)
  else
    some (l2, w)
def FX13_nameHere_B40 (n : Nat) (w : Wd) (y0 : Int32) : Option (Int32 × Wd) :=
  bnd (FX13_isGood w) fun x8 =>
  if x8 = true then
    if y0 = (-1) then
      bnd (FX13_wrong w 4) fun w17 =>
      FX13_nameHere_B58 n w17 y0
    else
      FX13_nameHere_B58 n w y0
  else
    FX13_nameHere_B58 n w y0
def FX13_nameHere_B20 (n : Nat) (w : Wd) (l1 : Int32) : Option (Int32 × Wd) :=
  bnd (FX13_isGood w) fun x5 =>
  if x5 = true then
    bo1 (FX13_found n w l1 ((w 15).2 0 12)) fun x20 =>
    FX13_nameHere_B40 n w x20
  else
    FX13_nameHere_B40 n w (-1)
def FX13_nameHere (n : Nat) (w : Wd) (p1 : Int32) : Option (Int32 × Wd) :=
  bnd (FX13_isGood w) fun x2 =>
  if x2 = true then
    if (w 15).1 0 6 = 1 then
      FX13_nameHere_B20 n w p1
    else
      bnd (FX13_wrong w 1) fun w23 =>
      FX13_nameHere_B20 n w23 p1
  else
    FX13_nameHere_B20 n w p1
def FX13_shoutLine (n : Nat) (w : Wd)  : Option (Wd) :=
  bo1 (FX13_goOnRead n w) fun w2 =>
  bo2 (FX13_nameHere n w2 1) fun x5 w6 =>
  bo2 (FX13_nameHere n w6 0) fun x9 w10 =>
  bo2 (FX13_more n w10 1 20) fun x13 w14 =>
  bo2 (FX13_more n w14 1 4) fun x17 w18 =>
  bnd (FX13_isSign w18 59) fun x21 =>
  if x21 = true then
    bo1 (FX13_refuses n w18 x5 x9 x17) fun x24 =>
    if x24 = 0 then
      bo2 (FX13_sells w18 x5 x9 x13 x17) fun x27 w28 =>
      bnd (sW w28 15 (sI (w28 15) 0 31 x27)) fun w30 =>
      some w30
    else
      bnd (FX13_wrong w18 6) fun w33 =>
      some w33
  else
    some w18
def FX13_valleyLine (n : Nat) (w : Wd) (p1 : Int32) (p2 : Int32) (p3 : Int32) : Option (Wd) :=
  bo1 (FX13_goOnRead n w) fun w2 =>
  bo2 (FX13_nameHere n w2 0) fun x5 w6 =>
  bo2 (FX13_more n w6 p2 p3) fun x9 w10 =>
  bnd (FX13_isGood w10) fun x13 =>
  if x13 = true then
    bnd (FX13_vly x5) fun x16 =>
    bo2 (FX13_sets w10 (x16 + p1) x9) fun x19 w20 =>
    bnd (sW w20 15 (sI (w20 15) 0 31 x19)) fun w22 =>
    some w22
  else
    some w10
def FX13_wellLine (n : Nat) (w : Wd)  : Option (Wd) :=
  bo1 (FX13_goOnRead n w) fun w2 =>
  bo2 (FX13_more n w2 0 20) fun x5 w6 =>
  bnd (FX13_isGood w6) fun x9 =>
  if x9 = true then
    bo2 (FX13_sets w6 6 x5) fun x12 w13 =>
    bnd (sW w13 15 (sI (w13 15) 0 31 x12)) fun w15 =>
    some w15
  else
    some w6
def FX13_passLine (n : Nat) (w : Wd)  : Option (Wd) :=
  bo1 (FX13_goOnRead n w) fun w2 =>
  bnd2 (FX13_looks w2 1 240) fun x5 w6 =>
  bnd (FX13_isGood w6) fun x9 =>
  if x9 = true then
    bo1 (FX13_mayPass w6 x5) fun x24 =>
    if x24 = true then
      bnd (FX13_isGood w6) fun x27 =>
      if x27 = true then
        bo2 (FX13_passes n w6 x5) fun x30 w31 =>
        bnd (sW w31 15 (sI (w31 15) 0 31 x30)) fun w33 =>
        bo1 (FX13_goOnRead n w33) fun w36 =>
        some w36
      else
        some w6
    else
      bnd (FX13_wrong w6 6) fun w39 =>
      bnd (FX13_isGood w39) fun x42 =>
      if x42 = true then
        bo2 (FX13_passes n w39 x5) fun x45 w46 =>
        bnd (sW w46 15 (sI (w46 15) 0 31 x45)) fun w48 =>
        bo1 (FX13_goOnRead n w48) fun w51 =>
        some w51
      else
        some w39
  else
    bnd (FX13_isGood w6) fun x12 =>
    if x12 = true then
      bo2 (FX13_passes n w6 x5) fun x15 w16 =>
      bnd (sW w16 15 (sI (w16 15) 0 31 x15)) fun w18 =>
      bo1 (FX13_goOnRead n w18) fun w21 =>
      some w21
    else
      some w6
def FX13_fakeLine (n : Nat) (w : Wd)  : Option (Wd) :=
  bo1 (FX13_goOnRead n w) fun w2 =>
  gd (inb 2 390) <|
  bnd2 (FX13_looks w2 0 (((w2 15).1 2 2) - 1)) fun x6 w7 =>
  bnd (FX13_isGood w7) fun x10 =>
  if x10 = true then
    bo1 (FX13_isOpen w7 x6) fun x25 =>
    if x25 = true then
      bnd (FX13_isGood w7) fun x28 =>
      if x28 = true then
        bo2 (FX13_fakes n w7 x6) fun x31 w32 =>
        bnd (sW w32 15 (sI (w32 15) 0 31 x31)) fun w34 =>
        bo1 (FX13_goOnRead n w34) fun w37 =>
        some w37
      else
        some w7
    else
      bnd (FX13_wrong w7 6) fun w40 =>
      bnd (FX13_isGood w40) fun x43 =>
      if x43 = true then
        bo2 (FX13_fakes n w40 x6) fun x46 w47 =>
        bnd (sW w47 15 (sI (w47 15) 0 31 x46)) fun w49 =>
        bo1 (FX13_goOnRead n w49) fun w52 =>
        some w52
      else
        some w40
  else
    bnd (FX13_isGood w7) fun x13 =>
    if x13 = true then
      bo2 (FX13_fakes n w7 x6) fun x16 w17 =>
      bnd (sW w17 15 (sI (w17 15) 0 31 x16)) fun w19 =>
      bo1 (FX13_goOnRead n w19) fun w22 =>
      some w22
    else
      some w7
def FX13_statement (n : Nat) (w : Wd)  : Option (Wd) :=
  bnd (FX13_isWord w 739651769) fun x2 =>
  if x2 = true then
    bo1 (FX13_newLine n w 0) fun w50 =>
    some w50
  else
    bnd (FX13_isWord w 126286804146) fun x5 =>
    if x5 = true then
      bo1 (FX13_newLine n w 1) fun w47 =>
      some w47
    else
      bnd (FX13_isWord w 20201140) fun x8 =>
      if x8 = true then
        bo1 (FX13_shoutLine n w) fun w44 =>
        some w44
      else
        bnd (FX13_isWord w 6631) fun x11 =>
        if x11 = true then
          bo1 (FX13_valleyLine n w 3 0 9) fun w41 =>
          some w41
        else
          bnd (FX13_isWord w 17376357) fun x14 =>
          if x14 = true then
            bo1 (FX13_valleyLine n w 2 1 99) fun w38 =>
            some w38
          else
            bnd (FX13_isWord w 759180) fun x17 =>
            if x17 = true then
              bo1 (FX13_wellLine n w) fun w35 =>
              some w35
            else
              bnd (FX13_isWord w 525939) fun x20 =>
              if x20 = true then
                bo1 (FX13_passLine n w) fun w32 =>
                some w32
              else
                bnd (FX13_isWord w 197989) fun x23 =>
                if x23 = true then
                  bo1 (FX13_fakeLine n w) fun w29 =>
                  some w29
                else
                  bnd (FX13_wrong w 1) fun w26 =>
                  some w26
def FX13_readText_L25 (n : Nat) : Nat → Wd → Option (Int32 × Wd)
  | 0 => fun _ => none
  | k + 1 => fun w  =>
    bnd (FX13_isGood w) fun x17 =>
    if x17 = true then
      if (w 15).1 0 6 = 0 then
        bnd2 (FX13_endsText w) fun x30 w31 =>
        if x30 = true then
          bnd (sW w31 15 (sI (w31 15) 0 18 0)) fun w33 =>
          gd (inb 2 390) <|
          some ((w33 15).1 2 2, w33)
        else
          bo1 (FX13_goesBack n w31) fun w37 =>
          some (0, w37)
      else
        bo1 (FX13_statement n w) fun w40 =>
        bo1 (FX13_mustSign n w40 59) fun w43 =>
        FX13_readText_L25 n k w43 
    else
      bnd2 (FX13_endsText w) fun x20 w21 =>
      if x20 = true then
        bnd (sW w21 15 (sI (w21 15) 0 18 0)) fun w23 =>
        gd (inb 2 390) <|
        some ((w23 15).1 2 2, w23)
      else
        bo1 (FX13_goesBack n w21) fun w27 =>
        some (0, w27)
def FX13_readText (n : Nat) (w : Wd)  : Option (Int32 × Wd) :=
  bo1 (FX13_laysAside n w) fun w2 =>
  bo1 (FX13_beginsText n w2) fun w5 =>
  bo1 (FX13_begins n w5) fun w8 =>
  bo1 (FX13_mustWord n w8 437857460) fun w11 =>
  bo1 (FX13_mustSign n w11 59) fun w14 =>
  FX13_readText_L25 n n w14 
def FX13_told (w : Wd) (p1 : Int32) : Int32 × Wd :=
  bnd (sW w 15 (sI (w 15) 0 0 0)) fun w1 =>
  (p1, w1)
def FX13_valleyCount (w : Wd)  : Option (Int32 × Wd) :=
  gd (inb 0 390) <|
  bnd2 (FX13_told w ((w 15).1 2 0)) fun x3 w4 =>
  some (x3, w4)
def FX13_customerCount (w : Wd)  : Option (Int32 × Wd) :=
  gd (inb 1 390) <|
  bnd2 (FX13_told w ((w 15).1 2 1)) fun x3 w4 =>
  some (x3, w4)
def FX13_shoutCount (w : Wd)  : Option (Int32 × Wd) :=
  gd (inb 2 390) <|
  bnd2 (FX13_told w ((w 15).1 2 2)) fun x3 w4 =>
  some (x3, w4)
def FX13_time (w : Wd)  : Option (Int32 × Wd) :=
  gd (inb 3 390) <|
  bnd2 (FX13_told w ((w 15).1 2 3)) fun x3 w4 =>
  some (x3, w4)
def FX13_earned (w : Wd)  : Option (Int32 × Wd) :=
  gd (inb 4 390) <|
  bnd2 (FX13_told w ((w 15).1 2 4)) fun x3 w4 =>
  some (x3, w4)
def FX13_refunded (w : Wd)  : Option (Int32 × Wd) :=
  gd (inb 5 390) <|
  bnd2 (FX13_told w ((w 15).1 2 5)) fun x3 w4 =>
  some (x3, w4)
def FX13_held (n : Nat) (w : Wd)  : Option (Int32 × Wd) :=
  bo1 (FX13_heldAll n w) fun x2 =>
  bnd2 (FX13_told w x2) fun x5 w6 =>
  some (x5, w6)
def FX13_wellDepth (w : Wd)  : Option (Int32 × Wd) :=
  gd (inb 6 390) <|
  bnd2 (FX13_told w ((w 15).1 2 6)) fun x3 w4 =>
  some (x3, w4)
def FX13_openShouts_L4 (n : Nat) : Nat → Wd → Int32 → Int32 → Option (Int32 × Wd)
  | 0 => fun _ _ _ => none
  | k + 1 => fun w l1 l2 =>
    gd (inb 2 390) <|
    if (w 15).1 2 2 ≤ l2 then
      bnd2 (FX13_told w l1) fun x3 w4 =>
      some (x3, w4)
    else
      bo1 (FX13_isOpen w l2) fun x7 =>
      bnd (FX13_truth x7) fun x10 =>
      FX13_openShouts_L4 n k w (l1 + x10) (l2 + 1)
def FX13_openShouts (n : Nat) (w : Wd)  : Option (Int32 × Wd) :=
  FX13_openShouts_L4 n n w 0 0
def FX13_lengthOf_L4 (n : Nat) : Nat → Int64 → Int32 → Int64 → Option (Int32)
  | 0 => fun _ _ _ => none
  | k + 1 => fun l0 l2 l3 =>
    if lg_cmp l3 0 ≤ 0 then
      some l2
    else
      FX13_lengthOf_L4 n k l0 (l2 + 1) (l3 >>> ((5 : Int32).toInt64 &&& 63))
def FX13_lengthOf (n : Nat) (p0 : Int64) : Option (Int32) :=
  FX13_lengthOf_L4 n n p0 0 p0
def FX13_letterAt (n : Nat) (p0 : Int64) (p2 : Int32) : Option (Int32) :=
  bo1 (FX13_lengthOf n p0) fun x2 =>
  bnd (FX13_isIn p2.toInt64 0 ((x2 - 1).toInt64)) fun x5 =>
  if x5 = true then
    some (96 + (((p0 >>> ((5 * ((x2 - 1) - p2)).toInt64 &&& 63)) &&& 31).toInt32))
  else
    some (-1)
def FX13_valleyByte (n : Nat) (w : Wd) (p1 : Int32) (p2 : Int32) : Option (Int32 × Wd) :=
  bo1 (FX13_isValley w p1) fun x2 =>
  bnd2 (FX13_goes w x2) fun x5 w6 =>
  if x5 = true then
    bnd (FX13_nme 0 p1) fun x9 =>
    bo1 (FX13_nameAt w6 x9) fun x12 =>
    bo1 (FX13_letterAt n x12 p2) fun x15 =>
    some (x15, w6)
  else
    some (0, w6)
def FX13_findValley (n : Nat) (w : Wd)  : Option (Int32 × Wd) :=
  bo1 (FX13_bufferName n w) fun x2 =>
  bo1 (FX13_found n w 0 x2) fun x5 =>
  bnd2 (FX13_told w x5) fun x8 w9 =>
  some (x8, w9)
def FX13_inValley (w : Wd) (p1 : Int32) (p2 : Int32) : Option (Int32 × Wd) :=
  bo1 (FX13_isValley w p1) fun x2 =>
  bnd2 (FX13_goes w x2) fun x5 w6 =>
  if x5 = true then
    bo1 (FX13_ofValley w6 p1 p2) fun x9 =>
    some (x9, w6)
  else
    some (0, w6)
def FX13_width (w : Wd) (p1 : Int32) : Option (Int32 × Wd) :=
  bo2 (FX13_inValley w p1 0) fun x2 w3 =>
  some (x2, w3)
def FX13_walls (w : Wd) (p1 : Int32) : Option (Int32 × Wd) :=
  bo2 (FX13_inValley w p1 1) fun x2 w3 =>
  some (x2, w3)
def FX13_price (w : Wd) (p1 : Int32) : Option (Int32 × Wd) :=
  bo2 (FX13_inValley w p1 2) fun x2 w3 =>
  some (x2, w3)
def FX13_rating (w : Wd) (p1 : Int32) : Option (Int32 × Wd) :=
  bo2 (FX13_inValley w p1 4) fun x2 w3 =>
  some (x2, w3)
def FX13_echoesLost (w : Wd) (p1 : Int32) : Option (Int32 × Wd) :=
  bo2 (FX13_inValley w p1 5) fun x2 w3 =>
  some (x2, w3)
def FX13_earnedOf_L4 (n : Nat) : Nat → Wd → Int32 → Int32 → Int32 → Option (Int32)
  | 0 => fun _ _ _ _ => none
  | k + 1 => fun w l1 l2 l3 =>
    gd (inb 2 390) <|
    if (w 15).1 2 2 ≤ l3 then
      some l2
    else
      bo1 (FX13_of w l3 1) fun x3 =>
      if x3 = l1 then
        bo1 (FX13_receiptOf n w l3) fun x6 =>
        FX13_earnedOf_L4 n k w l1 (l2 + x6) (l3 + 1)
      else
        FX13_earnedOf_L4 n k w l1 (l2 + 0) (l3 + 1)
def FX13_earnedOf (n : Nat) (w : Wd) (p1 : Int32) : Option (Int32) :=
  FX13_earnedOf_L4 n n w p1 0 0
def FX13_earnedIn (n : Nat) (w : Wd) (p1 : Int32) : Option (Int32 × Wd) :=
  bo1 (FX13_isValley w p1) fun x2 =>
  bnd2 (FX13_goes w x2) fun x5 w6 =>
  if x5 = true then
    bo1 (FX13_earnedOf n w6 p1) fun x9 =>
    some (x9, w6)
  else
    some (0, w6)
def FX13_isBetter (w : Wd) (p1 : Int32) (p2 : Int32) : Option (Bool) :=
  bo1 (FX13_ofValley w p1 4) fun x2 =>
  bo1 (FX13_ofValley w p2 4) fun x5 =>
  if x2 = x5 then
    bo1 (FX13_ofValley w p1 2) fun x8 =>
    bo1 (FX13_ofValley w p2 2) fun x11 =>
    if x11 ≤ x8 then
      some false
    else
      some true
  else
    bo1 (FX13_ofValley w p1 4) fun x14 =>
    bo1 (FX13_ofValley w p2 4) fun x17 =>
    if x14 ≤ x17 then
      some false
    else
      some true
def FX13_bestValley_L4 (n : Nat) : Nat → Wd → Int32 → Int32 → Option (Int32 × Wd)
  | 0 => fun _ _ _ => none
  | k + 1 => fun w l1 l2 =>
    gd (inb 0 390) <|
    if (w 15).1 2 0 ≤ l2 then
      bnd2 (FX13_told w l1) fun x3 w4 =>
      some (x3, w4)
    else
      if l1 = (-1) then
        FX13_bestValley_L4 n k w l2 (l2 + 1)
      else
        bo1 (FX13_isBetter w l2 l1) fun x7 =>
        if x7 = true then
          FX13_bestValley_L4 n k w l2 (l2 + 1)
        else
          FX13_bestValley_L4 n k w l1 (l2 + 1)
def FX13_bestValley (n : Nat) (w : Wd)  : Option (Int32 × Wd) :=
  FX13_bestValley_L4 n n w (-1) 0
def FX13_widened (n : Nat) (w : Wd) (p1 : Int32) : Option (Int64) :=
  bnd (FX13_nme 0 p1) fun x2 =>
  bo1 (FX13_nameAt w x2) fun x5 =>
  bo1 (FX13_lengthOf n x5) fun x8 =>
  some (x5 <<< ((5 * (8 - x8)).toInt64 &&& 63))
def FX13_ahead_L4 (n : Nat) : Nat → Wd → Int32 → Int32 → Int32 → Option (Int32)
  | 0 => fun _ _ _ _ => none
  | k + 1 => fun w l1 l2 l3 =>
    gd (inb 0 390) <|
    if (w 15).1 2 0 ≤ l3 then
      some l2
    else
      bo1 (FX13_widened n w l3) fun x3 =>
      bo1 (FX13_widened n w l1) fun x6 =>
      if 0 ≤ lg_cmp x3 x6 then
        bnd (FX13_truth false) fun x9 =>
        FX13_ahead_L4 n k w l1 (l2 + x9) (l3 + 1)
      else
        bnd (FX13_truth true) fun x12 =>
        FX13_ahead_L4 n k w l1 (l2 + x12) (l3 + 1)
def FX13_ahead (n : Nat) (w : Wd) (p1 : Int32) : Option (Int32) :=
  FX13_ahead_L4 n n w p1 0 0
def FX13_valleyByName_L7 (n : Nat) : Nat → Wd → Int32 → Int32 → Option (Int32 × Wd)
  | 0 => fun _ _ _ => none
  | k + 1 => fun w l1 l2 =>
    gd (inb 0 390) <|
    if (w 15).1 2 0 ≤ l2 then
      some ((-1), w)
    else
      bo1 (FX13_ahead n w l2) fun x5 =>
      if x5 = l1 then
        some (l2, w)
      else
        FX13_valleyByName_L7 n k w l1 (l2 + 1)
def FX13_valleyByName (n : Nat) (w : Wd) (p1 : Int32) : Option (Int32 × Wd) :=
  bnd (sW w 15 (sI (w 15) 0 0 0)) fun w1 =>
  FX13_valleyByName_L7 n n w1 p1 0
def FX13_findCustomer (n : Nat) (w : Wd)  : Option (Int32 × Wd) :=
  bo1 (FX13_bufferName n w) fun x2 =>
  bo1 (FX13_found n w 1 x2) fun x5 =>
  bnd2 (FX13_told w x5) fun x8 w9 =>
  some (x8, w9)
def FX13_inCustomer (w : Wd) (p1 : Int32) (p2 : Int32) : Option (Int32 × Wd) :=
  bo1 (FX13_isCustomer w p1) fun x2 =>
  bnd2 (FX13_goes w x2) fun x5 w6 =>
  if x5 = true then
    bo1 (FX13_ofCustomer w6 p1 p2) fun x9 =>
    some (x9, w6)
  else
    some (0, w6)
def FX13_money (w : Wd) (p1 : Int32) : Option (Int32 × Wd) :=
  bo2 (FX13_inCustomer w p1 1) fun x2 w3 =>
  some (x2, w3)
def FX13_patience (w : Wd) (p1 : Int32) : Option (Int32 × Wd) :=
  bo2 (FX13_inCustomer w p1 0) fun x2 w3 =>
  some (x2, w3)
def FX13_suspicion (w : Wd) (p1 : Int32) : Option (Int32 × Wd) :=
  bo2 (FX13_inCustomer w p1 2) fun x2 w3 =>
  some (x2, w3)
def FX13_isAngry (w : Wd) (p1 : Int32) : Option (Bool × Wd) :=
  bo1 (FX13_isCustomer w p1) fun x2 =>
  bnd2 (FX13_goes w x2) fun x5 w6 =>
  if x5 = true then
    bo1 (FX13_isAngryNow w6 p1) fun x9 =>
    if x9 = true then
      some (true, w6)
    else
      some (false, w6)
  else
    some (false, w6)
def FX13_echoesHeard (w : Wd) (p1 : Int32) : Option (Int32 × Wd) :=
  bo2 (FX13_inCustomer w p1 3) fun x2 w3 =>
  some (x2, w3)
def FX13_angryCustomers_L4 (n : Nat) : Nat → Wd → Int32 → Int32 → Option (Int32 × Wd)
  | 0 => fun _ _ _ => none
  | k + 1 => fun w l1 l2 =>
    gd (inb 1 390) <|
    if (w 15).1 2 1 ≤ l2 then
      bnd2 (FX13_told w l1) fun x3 w4 =>
      some (x3, w4)
    else
      bo1 (FX13_isAngryNow w l2) fun x7 =>
      bnd (FX13_truth x7) fun x10 =>
      FX13_angryCustomers_L4 n k w (l1 ||| (x10 <<< (l2 &&& 31))) (l2 + 1)
def FX13_angryCustomers (n : Nat) (w : Wd)  : Option (Int32 × Wd) :=
  FX13_angryCustomers_L4 n n w 0 0
def FX13_bestCustomer_L4 (n : Nat) : Nat → Wd → Int32 → Int32 → Option (Int32 × Wd)
  | 0 => fun _ _ _ => none
  | k + 1 => fun w l1 l2 =>
    gd (inb 1 390) <|
    if (w 15).1 2 1 ≤ l2 then
      bnd2 (FX13_told w l1) fun x3 w4 =>
      some (x3, w4)
    else
      if l1 = (-1) then
        FX13_bestCustomer_L4 n k w l2 (l2 + 1)
      else
        bo1 (FX13_ofCustomer w l2 3) fun x7 =>
        bo1 (FX13_ofCustomer w l1 3) fun x10 =>
        if x7 ≤ x10 then
          FX13_bestCustomer_L4 n k w l1 (l2 + 1)
        else
          FX13_bestCustomer_L4 n k w l2 (l2 + 1)
def FX13_bestCustomer (n : Nat) (w : Wd)  : Option (Int32 × Wd) :=
  FX13_bestCustomer_L4 n n w (-1) 0
def FX13_heldFor (n : Nat) (w : Wd) (p1 : Int32) : Option (Int32 × Wd) :=
  bo1 (FX13_isCustomer w p1) fun x2 =>
  bnd2 (FX13_goes w x2) fun x5 w6 =>
  if x5 = true then
    bo1 (FX13_heldOf n w6 p1) fun x9 =>
    some (x9, w6)
  else
    some (0, w6)
def FX13_inShout (w : Wd) (p1 : Int32) (p2 : Int32) : Option (Int32 × Wd) :=
  bo1 (FX13_isShout0 w p1) fun x2 =>
  bnd2 (FX13_goes w x2) fun x5 w6 =>
  if x5 = true then
    bo1 (FX13_of w6 p1 p2) fun x9 =>
    some (x9, w6)
  else
    some (0, w6)
def FX13_shoutCustomer (w : Wd) (p1 : Int32) : Option (Int32 × Wd) :=
  bo2 (FX13_inShout w p1 0) fun x2 w3 =>
  some (x2, w3)
def FX13_shoutValley (w : Wd) (p1 : Int32) : Option (Int32 × Wd) :=
  bo2 (FX13_inShout w p1 1) fun x2 w3 =>
  some (x2, w3)
def FX13_shoutState (w : Wd) (p1 : Int32) : Option (Int32 × Wd) :=
  bo2 (FX13_inShout w p1 6) fun x2 w3 =>
  some (x2, w3)
def FX13_returns (w : Wd) (p1 : Int32) : Option (Int32 × Wd) :=
  bo2 (FX13_inShout w p1 7) fun x2 w3 =>
  some (x2, w3)
def FX13_receipt (n : Nat) (w : Wd) (p1 : Int32) : Option (Int32 × Wd) :=
  bo1 (FX13_isShout0 w p1) fun x2 =>
  bnd2 (FX13_goes w x2) fun x5 w6 =>
  if x5 = true then
    bo1 (FX13_receiptOf n w6 p1) fun x9 =>
    some (x9, w6)
  else
    some (0, w6)
def FX13_nextReturn (w : Wd) (p1 : Int32) : Option (Int32 × Wd) :=
  bo1 (FX13_isShout0 w p1) fun x2 =>
  bnd2 (FX13_goes w x2) fun x5 w6 =>
  if x5 = true then
    bo1 (FX13_isOpen w6 p1) fun x9 =>
    if x9 = true then
      bo1 (FX13_returnsAt w6 p1) fun x12 =>
      some (x12, w6)
    else
      some ((-1), w6)
  else
    some (0, w6)
def FX13_patienceEnds (w : Wd) (p1 : Int32) : Option (Int32 × Wd) :=
  bo1 (FX13_isShout0 w p1) fun x2 =>
  bnd2 (FX13_goes w x2) fun x5 w6 =>
  if x5 = true then
    bo1 (FX13_endsAt w6 p1) fun x9 =>
    some (x9, w6)
  else
    some (0, w6)
def FX13_refusal (n : Nat) (w : Wd) (p1 : Int32) (p2 : Int32) (p3 : Int32) : Option (Int32 × Wd) :=
  bo1 (FX13_isCustomer w p1) fun x2 =>
  if x2 = true then
    bo1 (FX13_isValley w p2) fun x15 =>
    if x15 = true then
      bnd (FX13_areWalls p3) fun x28 =>
      bnd2 (FX13_goesBoth w true x28) fun x31 w32 =>
      if x31 = true then
        bo1 (FX13_refuses n w32 p1 p2 p3) fun x35 =>
        some (x35, w32)
      else
        some (0, w32)
    else
      bnd (FX13_areWalls p3) fun x18 =>
      bnd2 (FX13_goesBoth w false x18) fun x21 w22 =>
      if x21 = true then
        bo1 (FX13_refuses n w22 p1 p2 p3) fun x25 =>
        some (x25, w22)
      else
        some (0, w22)
  else
    bnd (FX13_areWalls p3) fun x5 =>
    bnd2 (FX13_goesBoth w false x5) fun x8 w9 =>
    if x8 = true then
      bo1 (FX13_refuses n w9 p1 p2 p3) fun x12 =>
      some (x12, w9)
    else
      some (0, w9)
def FX13_neededLoudness (w : Wd) (p1 : Int32) (p2 : Int32) : Option (Int32 × Wd) :=
  bo1 (FX13_isValley w p1) fun x2 =>
  bnd (FX13_areWalls p2) fun x5 =>
  bnd2 (FX13_goesBoth w x2 x5) fun x8 w9 =>
  if x8 = true then
    bo1 (FX13_ofValley w9 p1 1) fun x12 =>
    if p2 ≤ x12 then
      bo1 (FX13_ofValley w9 p1 3) fun x15 =>
      some (((2 * p2) + x15) + 1, w9)
    else
      some ((-1), w9)
  else
    some (0, w9)
def FX13_isOffer (n : Nat) (w : Wd) (p1 : Int32) (p2 : Int32) (p3 : Int32) : Option (Bool) :=
  bo1 (FX13_refuses n w p1 p2 p3) fun x2 =>
  if x2 = 0 then
    bo1 (FX13_ofValley w p2 0) fun x5 =>
    bo1 (FX13_ofCustomer w p1 0) fun x8 =>
    if x8 < x5 * p3 then
      some false
    else
      some true
  else
    some false
def FX13_isCheaper (w : Wd) (p1 : Int32) (p2 : Int32) : Option (Bool) :=
  bo1 (FX13_ofValley w p1 2) fun x2 =>
  bo1 (FX13_ofValley w p2 2) fun x5 =>
  if x2 = x5 then
    bo1 (FX13_ofValley w p1 4) fun x8 =>
    bo1 (FX13_ofValley w p2 4) fun x11 =>
    if x8 ≤ x11 then
      some false
    else
      some true
  else
    bo1 (FX13_ofValley w p1 2) fun x14 =>
    bo1 (FX13_ofValley w p2 2) fun x17 =>
    if x17 ≤ x14 then
      some false
    else
      some true
def FX13_offer_L5 (n : Nat) : Nat → Wd → Int32 → Int32 → Int32 → Int32 → Option (Int32)
  | 0 => fun _ _ _ _ _ => none
  | k + 1 => fun w l1 l2 l3 l4 =>
    gd (inb 0 390) <|
    if (w 15).1 2 0 ≤ l4 then
      some l3
    else
      bo1 (FX13_isOffer n w l1 l4 l2) fun x3 =>
      if x3 = true then
        if l3 = (-1) then
          FX13_offer_L5 n k w l1 l2 l4 (l4 + 1)
        else
          bo1 (FX13_isCheaper w l4 l3) fun x6 =>
          if x6 = true then
            FX13_offer_L5 n k w l1 l2 l4 (l4 + 1)
          else
            FX13_offer_L5 n k w l1 l2 l3 (l4 + 1)
      else
        FX13_offer_L5 n k w l1 l2 l3 (l4 + 1)
def FX13_offer (n : Nat) (w : Wd) (p1 : Int32) (p2 : Int32) : Option (Int32) :=
  FX13_offer_L5 n n w p1 p2 (-1) 0
def FX13_bestOffer (n : Nat) (w : Wd) (p1 : Int32) (p2 : Int32) : Option (Int32 × Wd) :=
  bo1 (FX13_isCustomer w p1) fun x2 =>
  bnd (FX13_areWalls p2) fun x5 =>
  bnd2 (FX13_goesBoth w x2 x5) fun x8 w9 =>
  if x8 = true then
    bo1 (FX13_offer n w9 p1 p2) fun x12 =>
    some (x12, w9)
  else
    some (0, w9)
def FX13_smaller (p0 : Int32) (p1 : Int32) : Int32 :=
  if p1 ≤ p0 then
    p1
  else
    p0
def FX13_nextEvent_L4 (n : Nat) : Nat → Wd → Int32 → Int32 → Option (Int32 × Wd)
  | 0 => fun _ _ _ => none
  | k + 1 => fun w l1 l2 =>
    gd (inb 2 390) <|
    if (w 15).1 2 2 ≤ l2 then
      bnd2 (FX13_told w l1) fun x3 w4 =>
      some (x3, w4)
    else
      bo1 (FX13_isOpen w l2) fun x7 =>
      if x7 = true then
        bo1 (FX13_returnsAt w l2) fun x10 =>
        bo1 (FX13_endsAt w l2) fun x13 =>
        bnd (FX13_smaller x10 x13) fun x16 =>
        if l1 = (-1) then
          FX13_nextEvent_L4 n k w x16 (l2 + 1)
        else
          bnd (FX13_smaller x16 l1) fun x19 =>
          FX13_nextEvent_L4 n k w x19 (l2 + 1)
      else
        FX13_nextEvent_L4 n k w l1 (l2 + 1)
def FX13_nextEvent (n : Nat) (w : Wd)  : Option (Int32 × Wd) :=
  FX13_nextEvent_L4 n n w (-1) 0
def FX13_earnedBehind (n : Nat) (w : Wd) (p1 : Int32) : Option (Int32 × Wd) :=
  bo1 (FX13_holds n w) fun w2 =>
  bo2 (FX13_passes n w2 p1) fun x5 w6 =>
  bnd (sW w6 15 (sI (w6 15) 0 31 x5)) fun w8 =>
  gd (inb 4 390) <|
  bo2 (FX13_putBack n w8 ((w8 15).1 2 4)) fun x12 w13 =>
  some (x12, w13)
def FX13_earnedAfter (n : Nat) (w : Wd) (p1 : Int32) : Option (Int32 × Wd) :=
  bnd (FX13_isIn p1.toInt64 0 240) fun x2 =>
  bnd2 (FX13_goes w x2) fun x5 w6 =>
  if x5 = true then
    bo2 (FX13_earnedBehind n w6 p1) fun x9 w10 =>
    some (x9, w10)
  else
    some (0, w6)
def FX13_endOf (w : Wd) (p1 : Int32) : Option (Int32) :=
  bo1 (FX13_isOpen w p1) fun x2 =>
  if x2 = true then
    bo1 (FX13_of w p1 1) fun x5 =>
    bo1 (FX13_ofValley w x5 0) fun x8 =>
    bo1 (FX13_of w p1 3) fun x11 =>
    bo1 (FX13_of w p1 0) fun x14 =>
    bo1 (FX13_ofCustomer w x14 0) fun x17 =>
    if x17 < x8 * x11 then
      some 2
    else
      some 1
  else
    bo1 (FX13_of w p1 6) fun x20 =>
    some x20
def FX13_finalState (w : Wd) (p1 : Int32) : Option (Int32 × Wd) :=
  bo1 (FX13_isShout0 w p1) fun x2 =>
  bnd2 (FX13_goes w x2) fun x5 w6 =>
  if x5 = true then
    bo1 (FX13_endOf w6 p1) fun x9 =>
    some (x9, w6)
  else
    some (0, w6)
def FX13_without (p0 : Int32) : Int32 :=
  if 0 ≤ p0 then
    p0
  else
    -p0
def FX13_costGap_L4 (n : Nat) : Nat → Wd → Int32 → Int32 → Option (Int32)
  | 0 => fun _ _ _ => none
  | k + 1 => fun w l1 l2 =>
    gd (inb 2 390) <|
    if (w 15).1 2 2 ≤ l2 then
      gd (inb 4 390) <|
      gd (inb 5 390) <|
      bo1 (FX13_heldAll n w) fun x5 =>
      bnd (FX13_without (((l1 - ((w 15).1 2 4)) - ((w 15).1 2 5)) - x5)) fun x8 =>
      some x8
    else
      bo1 (FX13_of w l2 4) fun x11 =>
      bo1 (FX13_of w l2 3) fun x14 =>
      FX13_costGap_L4 n k w (l1 + (x11 * x14)) (l2 + 1)
def FX13_costGap (n : Nat) (w : Wd)  : Option (Int32) :=
  FX13_costGap_L4 n n w 0 0
def FX13_moneyGap_L4 (n : Nat) : Nat → Wd → Int32 → Int32 → Option (Int32)
  | 0 => fun _ _ _ => none
  | k + 1 => fun w l1 l2 =>
    gd (inb 1 390) <|
    if (w 15).1 2 1 ≤ l2 then
      gd (inb 7 390) <|
      gd (inb 4 390) <|
      bo1 (FX13_heldAll n w) fun x5 =>
      bnd (FX13_without (((((w 15).1 2 7) - l1) - ((w 15).1 2 4)) - x5)) fun x8 =>
      some x8
    else
      bo1 (FX13_ofCustomer w l2 1) fun x11 =>
      FX13_moneyGap_L4 n k w (l1 + x11) (l2 + 1)
def FX13_moneyGap (n : Nat) (w : Wd)  : Option (Int32) :=
  FX13_moneyGap_L4 n n w 0 0
def FX13_unfinished_L4 (n : Nat) : Nat → Wd → Int32 → Int32 → Option (Int32)
  | 0 => fun _ _ _ => none
  | k + 1 => fun w l1 l2 =>
    gd (inb 2 390) <|
    if (w 15).1 2 2 ≤ l2 then
      some l1
    else
      bo1 (FX13_of w l2 6) fun x3 =>
      if x3 = 1 then
        bo1 (FX13_of w l2 7) fun x9 =>
        bo1 (FX13_of w l2 3) fun x12 =>
        if x12 ≤ x9 then
          bnd (FX13_truth false) fun x15 =>
          FX13_unfinished_L4 n k w (l1 + x15) (l2 + 1)
        else
          bnd (FX13_truth true) fun x18 =>
          FX13_unfinished_L4 n k w (l1 + x18) (l2 + 1)
      else
        bnd (FX13_truth false) fun x6 =>
        FX13_unfinished_L4 n k w (l1 + x6) (l2 + 1)
def FX13_unfinished (n : Nat) (w : Wd)  : Option (Int32) :=
  FX13_unfinished_L4 n n w 0 0
def FX13_violations (n : Nat) (w : Wd)  : Option (Int32 × Wd) :=
  bo1 (FX13_costGap n w) fun x2 =>
  bo1 (FX13_moneyGap n w) fun x5 =>
  bo1 (FX13_unfinished n w) fun x8 =>
  bnd2 (FX13_told w ((x2 + x5) + x8)) fun x11 w12 =>
  some (x11, w12)
def FX13_returnsAll_L4 (n : Nat) : Nat → Wd → Int32 → Int32 → Option (Int32)
  | 0 => fun _ _ _ => none
  | k + 1 => fun w l1 l2 =>
    gd (inb 2 390) <|
    if (w 15).1 2 2 ≤ l2 then
      some l1
    else
      bo1 (FX13_of w l2 7) fun x3 =>
      FX13_returnsAll_L4 n k w (l1 + x3) (l2 + 1)
def FX13_returnsAll (n : Nat) (w : Wd)  : Option (Int32) :=
  FX13_returnsAll_L4 n n w 0 0
def FX13_heardAll_L4 (n : Nat) : Nat → Wd → Int32 → Int32 → Option (Int32)
  | 0 => fun _ _ _ => none
  | k + 1 => fun w l1 l2 =>
    gd (inb 2 390) <|
    if (w 15).1 2 2 ≤ l2 then
      some l1
    else
      bo1 (FX13_of w l2 8) fun x3 =>
      bo1 (FX13_bits n x3) fun x6 =>
      FX13_heardAll_L4 n k w (l1 + x6) (l2 + 1)
def FX13_heardAll (n : Nat) (w : Wd)  : Option (Int32) :=
  FX13_heardAll_L4 n n w 0 0
def FX13_commandHere (w : Wd)  : Int32 :=
  bnd (FX13_isWord w 20201140) fun x2 =>
  if x2 = true then
    0
  else
    bnd (FX13_isWord w 6631) fun x5 =>
    if x5 = true then
      1
    else
      bnd (FX13_isWord w 17376357) fun x8 =>
      if x8 = true then
        2
      else
        bnd (FX13_isWord w 759180) fun x11 =>
        if x11 = true then
          3
        else
          bnd (FX13_isWord w 525939) fun x14 =>
          if x14 = true then
            4
          else
            bnd (FX13_isWord w 197989) fun x17 =>
            if x17 = true then
              5
            else
              bnd (FX13_isWord w 102173868) fun x20 =>
              if x20 = true then
                6
              else
                bnd (FX13_isWord w 609752116) fun x23 =>
                if x23 = true then
                  7
                else
                  (-1)
def FX13_readsRest (n : Nat) (w : Wd) (p1 : Int32) (p2 : Int32) : Option (Wd) :=
  bnd (p2) fun s1 =>
  if s1 = 0 then
    bo2 (FX13_nameHere n w 1) fun x4 w5 =>
    gd (inb p1 60) <| bnd (sW w5 15 (sI (w5 15) 8 p1.toNatClampNeg x4)) fun w8 =>
    bo2 (FX13_nameHere n w8 0) fun x11 w12 =>
    gd (inb p1 60) <| bnd (sW w12 15 (sI (w12 15) 9 p1.toNatClampNeg x11)) fun w15 =>
    bo2 (FX13_more n w15 0 9999) fun x18 w19 =>
    gd (inb p1 60) <| bnd (sW w19 15 (sI (w19 15) 10 p1.toNatClampNeg x18)) fun w22 =>
    bo2 (FX13_more n w22 0 9999) fun x25 w26 =>
    gd (inb p1 60) <| bnd (sW w26 15 (sI (w26 15) 11 p1.toNatClampNeg x25)) fun w29 =>
    some w29
  else if s1 = 1 then
    bo2 (FX13_nameHere n w 0) fun x32 w33 =>
    gd (inb p1 60) <| bnd (sW w33 15 (sI (w33 15) 8 p1.toNatClampNeg x32)) fun w36 =>
    bo2 (FX13_more n w36 0 9999) fun x39 w40 =>
    gd (inb p1 60) <| bnd (sW w40 15 (sI (w40 15) 9 p1.toNatClampNeg x39)) fun w43 =>
    some w43
  else if s1 = 2 then
    bo2 (FX13_nameHere n w 0) fun x46 w47 =>
    gd (inb p1 60) <| bnd (sW w47 15 (sI (w47 15) 8 p1.toNatClampNeg x46)) fun w50 =>
    bo2 (FX13_more n w50 0 9999) fun x53 w54 =>
    gd (inb p1 60) <| bnd (sW w54 15 (sI (w54 15) 9 p1.toNatClampNeg x53)) fun w57 =>
    some w57
  else if s1 = 3 then
    bo2 (FX13_more n w 0 9999) fun x60 w61 =>
    gd (inb p1 60) <| bnd (sW w61 15 (sI (w61 15) 8 p1.toNatClampNeg x60)) fun w64 =>
    some w64
  else if s1 = 4 then
    bo2 (FX13_more n w 0 9999) fun x67 w68 =>
    gd (inb p1 60) <| bnd (sW w68 15 (sI (w68 15) 8 p1.toNatClampNeg x67)) fun w71 =>
    some w71
  else if s1 = 5 then
    bo2 (FX13_more n w 0 9999) fun x74 w75 =>
    gd (inb p1 60) <| bnd (sW w75 15 (sI (w75 15) 8 p1.toNatClampNeg x74)) fun w78 =>
    some w78
  else if s1 = 6 then
    bo2 (FX13_more n w 0 9999) fun x81 w82 =>
    gd (inb p1 60) <| bnd (sW w82 15 (sI (w82 15) 8 p1.toNatClampNeg x81)) fun w85 =>
    some w85
  else if s1 = 7 then
    bo2 (FX13_number n w 1 20) fun x88 w89 =>
    gd (inb p1 60) <| bnd (sW w89 15 (sI (w89 15) 8 p1.toNatClampNeg x88)) fun w92 =>
    bo1 (FX13_mustSign n w92 40) fun w95 =>
    some w95
  else 
    bo2 (FX13_more n w 0 9999) fun x98 w99 =>
    gd (inb p1 60) <| bnd (sW w99 15 (sI (w99 15) 8 p1.toNatClampNeg x98)) fun w102 =>
    some w102
def FX13_command_B48 (n : Nat) (w : Wd) (l1 : Int32) : Option (Wd) :=
  bnd (FX13_isGood w) fun x5 =>
  if x5 = true then
    bnd (sW w 15 (sI (w 15) 0 29 (((w 15).1 0 29) + 1))) fun w7 =>
    bo1 (FX13_goOnRead n w7) fun w10 =>
    gd (inb ((w10 15).1 0 28) 60) <| bnd (sW w10 15 (sI (w10 15) 7 (((w10 15).1 0 28).toNatClampNeg) l1)) fun w13 =>
    bo1 (FX13_readsRest n w13 ((w10 15).1 0 28) l1) fun w16 =>
    bnd (FX13_isGood w16) fun x19 =>
    if x19 = true then
      bnd (sW w16 15 (sI (w16 15) 0 28 (((w16 15).1 0 28) + 1))) fun w21 =>
      if l1 = 7 then
        bnd (FX13_truth true) fun x29 =>
        bnd (sW w21 15 (sI (w21 15) 0 30 (((w21 15).1 0 30) + x29))) fun w31 =>
        some w31
      else
        bnd (FX13_truth false) fun x24 =>
        bnd (sW w21 15 (sI (w21 15) 0 30 (((w21 15).1 0 30) + x24))) fun w26 =>
        some w26
    else
      some w16
  else
    some w
def FX13_command_B34 (n : Nat) (w : Wd) (l1 : Int32) : Option (Wd) :=
  if (w 15).1 0 29 = 30 then
    bnd (FX13_wrong w 5) fun w34 =>
    FX13_command_B48 n w34 l1
  else
    FX13_command_B48 n w l1
def FX13_command_B15 (n : Nat) (w : Wd) (l1 : Int32) : Option (Wd) :=
  if l1 = 7 then
    if (w 15).1 0 30 = 2 then
      bnd (FX13_wrong w 3) fun w37 =>
      FX13_command_B34 n w37 l1
    else
      FX13_command_B34 n w l1
  else
    FX13_command_B34 n w l1
def FX13_command (n : Nat) (w : Wd)  : Option (Wd) :=
  bnd (FX13_commandHere w) fun x2 =>
  if x2 = (-1) then
    bnd (FX13_wrong w 1) fun w40 =>
    FX13_command_B15 n w40 x2
  else
    FX13_command_B15 n w x2
def FX13_closes_L0 (n : Nat) : Nat → Wd → Option (Wd)
  | 0 => fun _ => none
  | k + 1 => fun w  =>
    if (w 15).1 0 30 ≤ 0 then
      some w
    else
      bnd (FX13_isSign w 41) fun x2 =>
      if x2 = true then
        bnd (sW w 15 (sI (w 15) 0 30 (((w 15).1 0 30) - 1))) fun w4 =>
        gd (inb ((w4 15).1 0 28) 60) <| bnd (sW w4 15 (sI (w4 15) 7 (((w4 15).1 0 28).toNatClampNeg) 8)) fun w7 =>
        bnd (sW w7 15 (sI (w7 15) 0 28 (((w7 15).1 0 28) + 1))) fun w9 =>
        bo1 (FX13_goOnRead n w9) fun w12 =>
        bo1 (FX13_mustSign n w12 59) fun w15 =>
        FX13_closes_L0 n k w15 
      else
        some w
def FX13_closes (n : Nat) (w : Wd)  : Option (Wd) :=
  FX13_closes_L0 n n w 
def FX13_may (n : Nat) (w : Wd) (p1 : Int32) : Option (Bool) :=
  gd (inb p1 60) <|
  gd (inb p1 60) <|
  bnd ((w 15).1 7 p1.toNatClampNeg) fun s3 =>
  if s3 = 0 then
    gd (inb p1 60) <|
    bnd (FX13_isLoud ((w 15).1 10 p1.toNatClampNeg)) fun x7 =>
    if x7 = true then
      gd (inb p1 60) <|
      bnd (FX13_areWalls ((w 15).1 11 p1.toNatClampNeg)) fun x11 =>
      if x11 = true then
        gd (inb p1 60) <|
        gd (inb p1 60) <|
        bo1 (FX13_refuses n w ((w 15).1 8 p1.toNatClampNeg) ((w 15).1 9 p1.toNatClampNeg) ((w 15).1 11 p1.toNatClampNeg)) fun x16 =>
        if x16 = 0 then
          some true
        else
          some false
      else
        some false
    else
      some false
  else if s3 = 1 then
    gd (inb p1 60) <|
    bnd (FX13_isFog ((w 15).1 9 p1.toNatClampNeg)) fun x20 =>
    some x20
  else if s3 = 2 then
    gd (inb p1 60) <|
    bnd (FX13_isPrice ((w 15).1 9 p1.toNatClampNeg)) fun x24 =>
    some x24
  else if s3 = 3 then
    bnd (FX13_isDepth ((w 15).1 8 p1.toNatClampNeg)) fun x27 =>
    some x27
  else if s3 = 4 then
    bnd (FX13_isPatience ((w 15).1 8 p1.toNatClampNeg)) fun x30 =>
    if x30 = true then
      bo1 (FX13_mayPass w ((w 15).1 8 p1.toNatClampNeg)) fun x33 =>
      if x33 = true then
        some true
      else
        some false
    else
      some false
  else 
    bo1 (FX13_isOpen w ((w 15).1 8 p1.toNatClampNeg)) fun x36 =>
    some x36
def FX13_does (n : Nat) (w : Wd) (p1 : Int32) : Option (Int32 × Wd) :=
  gd (inb p1 60) <|
  gd (inb p1 60) <|
  bnd ((w 15).1 7 p1.toNatClampNeg) fun s3 =>
  if s3 = 0 then
    gd (inb p1 60) <|
    gd (inb p1 60) <|
    gd (inb p1 60) <|
    bo2 (FX13_sells w ((w 15).1 8 p1.toNatClampNeg) ((w 15).1 9 p1.toNatClampNeg) ((w 15).1 10 p1.toNatClampNeg) ((w 15).1 11 p1.toNatClampNeg)) fun x9 w10 =>
    some (x9, w10)
  else if s3 = 1 then
    bnd (FX13_vly ((w 15).1 8 p1.toNatClampNeg)) fun x13 =>
    gd (inb p1 60) <|
    bo2 (FX13_sets w (x13 + 3) ((w 15).1 9 p1.toNatClampNeg)) fun x17 w18 =>
    some (x17, w18)
  else if s3 = 2 then
    bnd (FX13_vly ((w 15).1 8 p1.toNatClampNeg)) fun x21 =>
    gd (inb p1 60) <|
    bo2 (FX13_sets w (x21 + 2) ((w 15).1 9 p1.toNatClampNeg)) fun x25 w26 =>
    some (x25, w26)
  else if s3 = 3 then
    bo2 (FX13_sets w 6 ((w 15).1 8 p1.toNatClampNeg)) fun x29 w30 =>
    some (x29, w30)
  else if s3 = 4 then
    bo2 (FX13_passes n w ((w 15).1 8 p1.toNatClampNeg)) fun x33 w34 =>
    some (x33, w34)
  else if s3 = 5 then
    bo2 (FX13_fakes n w ((w 15).1 8 p1.toNatClampNeg)) fun x37 w38 =>
    some (x37, w38)
  else 
    bo2 (FX13_cancels w ((w 15).1 8 p1.toNatClampNeg)) fun x41 w42 =>
    some (x41, w42)
def FX13_isDone (n : Nat) (w : Wd) (p1 : Int32) : Option (Bool × Wd) :=
  bo1 (FX13_may n w p1) fun x2 =>
  if x2 = true then
    bo2 (FX13_does n w p1) fun x5 w6 =>
    bnd (sW w6 15 (sI (w6 15) 0 31 x5)) fun w8 =>
    some (true, w8)
  else
    some (false, w)
def FX13_doesAll_L9 (n : Nat) : Nat → Wd → Int32 → Int32 → Int32 → Bool → Option (Int32 × Wd)
  | 0 => fun _ _ _ _ _ => none
  | k + 1 => fun w l1 l2 l3 l4 =>
    if l4 = true then
      if (w 15).1 0 28 ≤ l3 then
        some (l1, w)
      else
        if 40 ≤ l1 then
          some (l1, w)
        else
          gd (inb l3 60) <|
          if (w 15).1 7 l3.toNatClampNeg = 7 then
            gd (inb l2 2) <| bnd (sW w 15 (sI (w 15) 12 l2.toNatClampNeg l3)) fun w23 =>
            gd (inb l3 60) <|
            gd (inb l2 2) <| bnd (sW w23 15 (sI (w23 15) 13 l2.toNatClampNeg ((w23 15).1 8 l3.toNatClampNeg))) fun w27 =>
            FX13_doesAll_L9 n k w27 l1 (l2 + 1) (l3 + 1) l4
          else
            gd (inb l3 60) <|
            if (w 15).1 7 l3.toNatClampNeg = 8 then
              gd (inb (l2 - 1) 2) <|
              gd (inb (l2 - 1) 2) <| bnd (sW w 15 (sI (w 15) 13 ((l2 - 1).toNatClampNeg) (((w 15).1 13 ((l2 - 1).toNatClampNeg)) - 1))) fun w12 =>
              gd (inb (l2 - 1) 2) <|
              if (w12 15).1 13 ((l2 - 1).toNatClampNeg) ≤ 0 then
                bnd (FX13_truth true) fun x16 =>
                FX13_doesAll_L9 n k w12 l1 (l2 - x16) (l3 + 1) l4
              else
                gd (inb (l2 - 1) 2) <|
                bnd (FX13_truth false) fun x20 =>
                FX13_doesAll_L9 n k w12 l1 (l2 - x20) (((w12 15).1 12 ((l2 - 1).toNatClampNeg)) + 1) l4
            else
              bo2 (FX13_isDone n w l3) fun x4 w5 =>
              bnd (FX13_truth x4) fun x8 =>
              FX13_doesAll_L9 n k w5 (l1 + x8) l2 (l3 + 1) x4
    else
      some (l1, w)
def FX13_doesAll (n : Nat) (w : Wd)  : Option (Int32 × Wd) :=
  FX13_doesAll_L9 n n w 0 0 0 true
def FX13_runScript_B82 (n : Nat) (w : Wd)  : Option (Int32 × Wd) :=
  bnd2 (FX13_endsText w) fun x17 w18 =>
  if x17 = true then
    bo1 (FX13_laysAside n w18) fun w21 =>
    bo2 (FX13_doesAll n w21) fun x24 w25 =>
    bo1 (FX13_keeps n w25) fun w28 =>
    some (x24, w28)
  else
    some (0, w18)
def FX13_runScript_B63 (n : Nat) (w : Wd)  : Option (Int32 × Wd) :=
  bnd (FX13_isGood w) fun x14 =>
  if x14 = true then
    if (w 15).1 0 30 ≤ 0 then
      FX13_runScript_B82 n w
    else
      bnd (FX13_wrong w 1) fun w31 =>
      FX13_runScript_B82 n w31
  else
    FX13_runScript_B82 n w
def FX13_runScript_L19 (n : Nat) : Nat → Wd → Option (Int32 × Wd)
  | 0 => fun _ => none
  | k + 1 => fun w  =>
    bnd (FX13_isGood w) fun x11 =>
    if x11 = true then
      if (w 15).1 0 6 = 0 then
        FX13_runScript_B63 n w
      else
        bo1 (FX13_command n w) fun w34 =>
        if (w34 15).1 0 30 = (w 15).1 0 30 then
          bo1 (FX13_mustSign n w34 59) fun w40 =>
          bo1 (FX13_closes n w40) fun w43 =>
          FX13_runScript_L19 n k w43 
        else
          bo1 (FX13_closes n w34) fun w37 =>
          FX13_runScript_L19 n k w37 
    else
      FX13_runScript_B63 n w
def FX13_runScript (n : Nat) (w : Wd)  : Option (Int32 × Wd) :=
  bo1 (FX13_beginsText n w) fun w2 =>
  bnd (sW w2 15 (sI (w2 15) 0 28 0)) fun w4 =>
  bnd (sW w4 15 (sI (w4 15) 0 29 0)) fun w6 =>
  bnd (sW w6 15 (sI (w6 15) 0 30 0)) fun w8 =>
  FX13_runScript_L19 n n w8 
def FX13_tell (w : Wd) (p1 : Int32) : Option (Wd) :=
  gd (inb ((w 15).1 0 33) 60) <| bnd (sW w 15 (sI (w 15) 14 (((w 15).1 0 33).toNatClampNeg) p1)) fun w2 =>
  bnd (sW w2 15 (sI (w2 15) 0 33 (((w2 15).1 0 33) + 1))) fun w4 =>
  some w4
def FX13_tellName_L2 (n : Nat) : Nat → Wd → Int64 → Int32 → Option (Wd)
  | 0 => fun _ _ _ => none
  | k + 1 => fun w l1 l3 =>
    bo1 (FX13_lengthOf n l1) fun x2 =>
    if x2 ≤ l3 then
      some w
    else
      bo1 (FX13_letterAt n l1 l3) fun x5 =>
      bo1 (FX13_tell w x5) fun w8 =>
      FX13_tellName_L2 n k w8 l1 (l3 + 1)
def FX13_tellName (n : Nat) (w : Wd) (p1 : Int64) : Option (Wd) :=
  FX13_tellName_L2 n n w p1 0
def FX13_tellNumber (w : Wd) (p1 : Int32) : Option (Wd) :=
  if p1 ≤ 99 then
    if p1 ≤ 9 then
      bo1 (FX13_tell w (48 + (p1 - p1 / 10 * 10))) fun w2 =>
      some w2
    else
      bo1 (FX13_tell w (48 + ((p1 / 10) - (p1 / 10) / 10 * 10))) fun w5 =>
      bo1 (FX13_tell w5 (48 + (p1 - p1 / 10 * 10))) fun w8 =>
      some w8
  else
    bo1 (FX13_tell w (48 + (p1 / 100))) fun w11 =>
    if p1 ≤ 9 then
      bo1 (FX13_tell w11 (48 + (p1 - p1 / 10 * 10))) fun w14 =>
      some w14
    else
      bo1 (FX13_tell w11 (48 + ((p1 / 10) - (p1 / 10) / 10 * 10))) fun w17 =>
      bo1 (FX13_tell w17 (48 + (p1 - p1 / 10 * 10))) fun w20 =>
      some w20
def FX13_markOf (w : Wd) (p1 : Int32) (p2 : Int32) : Option (Int32) :=
  bo1 (FX13_of w p1 7) fun x2 =>
  if p2 < x2 then
    bo1 (FX13_of w p1 8) fun x5 =>
    bnd (FX13_has x5 p2) fun x8 =>
    if x8 = true then
      some 104
    else
      some 108
  else
    some 46
def FX13_tellReceipt_L55 (n : Nat) : Nat → Wd → Int32 → Int32 → Option (Wd)
  | 0 => fun _ _ _ => none
  | k + 1 => fun w l1 l2 =>
    bo1 (FX13_of w l1 3) fun x34 =>
    if x34 ≤ l2 then
      bo1 (FX13_tell w 32) fun w37 =>
      bo1 (FX13_receiptOf n w37 l1) fun x40 =>
      bo1 (FX13_tellNumber w37 x40) fun w43 =>
      bo1 (FX13_tell w43 10) fun w46 =>
      some w46
    else
      bo1 (FX13_markOf w l1 l2) fun x49 =>
      bo1 (FX13_tell w x49) fun w52 =>
      FX13_tellReceipt_L55 n k w52 l1 (l2 + 1)
def FX13_tellReceipt (n : Nat) (w : Wd) (p1 : Int32) : Option (Wd) :=
  bnd (sW w 15 (sI (w 15) 0 33 0)) fun w1 =>
  bo1 (FX13_of w1 p1 0) fun x4 =>
  bnd (FX13_nme 1 x4) fun x7 =>
  bo1 (FX13_nameAt w1 x7) fun x10 =>
  bo1 (FX13_tellName n w1 x10) fun w13 =>
  bo1 (FX13_tell w13 64) fun w16 =>
  bo1 (FX13_of w16 p1 1) fun x19 =>
  bnd (FX13_nme 0 x19) fun x22 =>
  bo1 (FX13_nameAt w16 x22) fun x25 =>
  bo1 (FX13_tellName n w16 x25) fun w28 =>
  bo1 (FX13_tell w28 32) fun w31 =>
  FX13_tellReceipt_L55 n n w31 p1 0
def FX13_printReceipt (n : Nat) (w : Wd) (p1 : Int32) : Option (Int32 × Wd) :=
  bo1 (FX13_isShout0 w p1) fun x2 =>
  bnd2 (FX13_goes w x2) fun x5 w6 =>
  if x5 = true then
    bo1 (FX13_tellReceipt n w6 p1) fun w9 =>
    some ((w9 15).1 0 33, w9)
  else
    some (0, w6)
def FX13_outputByte (w : Wd) (p1 : Int32) : Option (Int32 × Wd) :=
  bnd (FX13_isIn p1.toInt64 0 ((((w 15).1 0 33) - 1).toInt64)) fun x2 =>
  bnd2 (FX13_goes w x2) fun x5 w6 =>
  if x5 = true then
    gd (inb p1 60) <|
    some ((w6 15).1 14 p1.toNatClampNeg, w6)
  else
    some (0, w6)
