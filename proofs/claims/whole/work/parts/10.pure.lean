def fu : Nat := 5000
def f_X2_put (oP : St) (a1 : Int32) : Option (St) :=
  if 50 ≤ (oP.1 1) then
    some (oP)
  else
    bn1 (aw 50 oP 0 (oP.1 1) a1) fun oP3 =>
    some ((sI oP3 1 ((oP3.1 1) + 1)))
def f_X6_letter (oP : St) (a1 : Int32) : Option (Int32 × St) :=
  if a1 < 32 then
    some ((-102), oP)
  else
    if a1 ≤ 126 then
      if (oP.1 1) < 50 then
        bn1 (f_X2_put oP a1) fun oP4 =>
        some (oP4.1 1, oP4)
      else
        some ((-104), oP)
    else
      some ((-102), oP)
def f_X6_blank (oP : St) : Option (Int32 × St) :=
  some (oP.1 1, (sI oP 1 0))
def f_X0_clear (oB : St) : Option (St) :=
  some ((sI (sI (sI (sI (sI (sI (sI (sI oB 0 0) 1 0) 2 0) 3 2) 4 12) 5 1) 6 4) 7 3))
def f_X2_takesFirstDigit (oP : St) (a1 : Int32) : Option (Int32 × St) :=
  if a1 < 1 then
    some (0, oP)
  else
    if a1 ≤ 9 then
      if 4 ≤ a1 then
        some (1, (sI (sI oP 4 a1) 3 2))
      else
        some (1, (sI (sI oP 4 a1) 3 1))
    else
      some (0, oP)
def f_X2_takesSecondDigit (oP : St) (a1 : Int32) : Option (Int32 × St) :=
  if a1 < 0 then
    some (0, oP)
  else
    if 9 < a1 then
      some (0, oP)
    else
      if ((10 * (oP.1 4)) + a1) ≤ 31 then
        some (1, (sI (sI oP 4 ((10 * (oP.1 4)) + a1)) 3 2))
      else
        some (0, oP)
def f_X2_takesMark (oP : St) (oD : St) (a1 : Int32) : Option (Int32 × St × St) :=
  if (oD.1 0) = 0 then
    if a1 = 120 then
      some (1, (sI oP 3 0), (sI oD 0 (oP.1 4)))
    else
      some (0, oP, oD)
  else
    if a1 = 58 then
      some (1, (sI oP 3 3), (sI oD 1 (oP.1 4)))
    else
      some (0, oP, oD)
def f_X2_valueOf (a0 : Int32) : Option (Int32) :=
  if a0 < 48 then
    if a0 < 97 then
      some ((-1))
    else
      if 117 < a0 then
        some ((-1))
      else
        some ((a0 - 97) + 10)
  else
    if 57 < a0 then
      if a0 < 97 then
        some ((-1))
      else
        if 117 < a0 then
          some ((-1))
        else
          some ((a0 - 97) + 10)
    else
      some (a0 - 48)
def f_X0_isColumnFull_L4 (oB : St) (v1 : Int32) (K : Int32 → Option (Int32)) : Nat → Int32 → Int32 → Option (Int32)
  | 0, _, _ => none
  | n + 1, v2, v3 =>
    if (oB.1 2) ≤ v3 then
      K v2
    else
      bn1 (ag 14 (oB.2.2 8) v3) fun x2 =>
      if x2 = v1 then
        f_X0_isColumnFull_L4 oB v1 K n (v2 + 1) (v3 + 1)
      else
        f_X0_isColumnFull_L4 oB v1 K n v2 (v3 + 1)
theorem f_X0_isColumnFull_L4_s (oB : St) (v1 : Int32) (K : Int32 → Option (Int32)) (n : Nat) (v2 : Int32) (v3 : Int32) : f_X0_isColumnFull_L4 oB v1 K (n + 1) v2 v3 =
    if (oB.1 2) ≤ v3 then
      K v2
    else
      bn1 (ag 14 (oB.2.2 8) v3) fun x2 =>
      if x2 = v1 then
        f_X0_isColumnFull_L4 oB v1 K n (v2 + 1) (v3 + 1)
      else
        f_X0_isColumnFull_L4 oB v1 K n v2 (v3 + 1) := rfl
def f_X0_isColumnFull (oB : St) (a1 : Int32) : Option (Int32) :=
  f_X0_isColumnFull_L4 oB a1 (fun (v5 : Int32) =>
      if v5 < (oB.1 1) then
        some (0)
      else
        some (1)
    ) fu 0 0
def f_X2_takesAcross (oP : St) (oD : St) (a1 : Int32) : Option (Int32 × St) :=
  if a1 < 0 then
    some (0, oP)
  else
    if (oD.1 0) ≤ a1 then
      some (0, oP)
    else
      if 14 ≤ (oD.1 2) then
        some (0, oP)
      else
        bn1 (f_X0_isColumnFull oD a1) fun x4 =>
        if x4 = 0 then
          some (1, (sI (sI oP 5 a1) 3 4))
        else
          some (0, oP)
def f_X0_holds (oB : St) (a1 : Int32) (a2 : Int32) : Option (Int32) :=
  if a1 < 0 then
    some (0)
  else
    if (oB.1 0) ≤ a1 then
      some (0)
    else
      if a2 < 0 then
        some (0)
      else
        if (oB.1 1) ≤ a2 then
          some (0)
        else
          some (1)
def f_X0_isTaken_L2 (oB : St) (v1 : Int32) (v2 : Int32) : Nat → Int32 → Option (Int32)
  | 0, _ => none
  | n + 1, v3 =>
    if (oB.1 2) ≤ v3 then
      some (0)
    else
      bn1 (ag 14 (oB.2.2 8) v3) fun x2 =>
      if x2 = v1 then
        bn1 (ag 14 (oB.2.2 9) v3) fun x5 =>
        if x5 = v2 then
          some (1)
        else
          f_X0_isTaken_L2 oB v1 v2 n (v3 + 1)
      else
        f_X0_isTaken_L2 oB v1 v2 n (v3 + 1)
theorem f_X0_isTaken_L2_s (oB : St) (v1 : Int32) (v2 : Int32) (n : Nat) (v3 : Int32) : f_X0_isTaken_L2 oB v1 v2 (n + 1) v3 =
    if (oB.1 2) ≤ v3 then
      some (0)
    else
      bn1 (ag 14 (oB.2.2 8) v3) fun x2 =>
      if x2 = v1 then
        bn1 (ag 14 (oB.2.2 9) v3) fun x5 =>
        if x5 = v2 then
          some (1)
        else
          f_X0_isTaken_L2 oB v1 v2 n (v3 + 1)
      else
        f_X0_isTaken_L2 oB v1 v2 n (v3 + 1) := rfl
def f_X0_isTaken (oB : St) (a1 : Int32) (a2 : Int32) : Option (Int32) :=
  f_X0_isTaken_L2 oB a1 a2 fu 0
def f_X2_takesDown (oP : St) (oD : St) (a1 : Int32) : Option (Int32 × St) :=
  bn1 (f_X0_holds oD (oP.1 5) a1) fun x1 =>
  if x1 = 0 then
    some (0, oP)
  else
    bn1 (f_X0_isTaken oD (oP.1 5) a1) fun x4 =>
    if x4 = 0 then
      some (1, (sI (sI oP 6 a1) 3 5))
    else
      some (0, oP)
def f_X0_add (oB : St) (a1 : Int32) (a2 : Int32) (a3 : Int32) : Option (Int32 × St) :=
  bn1 (f_X0_holds oB a1 a2) fun x1 =>
  if x1 = 0 then
    some (0, oB)
  else
    bn1 (f_X0_isTaken oB a1 a2) fun x4 =>
    if x4 = 0 then
      if (oB.1 2) < 14 then
        bn1 (aw 14 oB 8 (oB.1 2) a1) fun oB9 =>
        bn1 (aw 14 oB9 9 (oB9.1 2) a2) fun oB11 =>
        bn1 (aw 14 oB11 10 (oB11.1 2) a3) fun oB13 =>
        some (1, (sI oB13 2 ((oB13.1 2) + 1)))
      else
        some (0, oB)
    else
      some (0, oB)
def f_X2_takesTurn (oP : St) (oD : St) (a1 : Int32) : Option (Int32 × St × St) :=
  if a1 = 45 then
    if a1 = 45 then
      bn2 (f_X0_add oD (oP.1 5) (oP.1 6) ((-1))) fun x6 oD7 =>
      if x6 = 0 ∨ x6 = 1 then
        some (x6, (sI oP 3 3), oD7)
      else none
    else
      bn2 (f_X0_add oD (oP.1 5) (oP.1 6) (a1 - 48)) fun x3 oD4 =>
      if x3 = 0 ∨ x3 = 1 then
        some (x3, (sI oP 3 3), oD4)
      else none
  else
    if a1 < 48 then
      some (0, oP, oD)
    else
      if a1 ≤ 55 then
        if a1 = 45 then
          bn2 (f_X0_add oD (oP.1 5) (oP.1 6) ((-1))) fun x15 oD16 =>
          if x15 = 0 ∨ x15 = 1 then
            some (x15, (sI oP 3 3), oD16)
          else none
        else
          bn2 (f_X0_add oD (oP.1 5) (oP.1 6) (a1 - 48)) fun x12 oD13 =>
          if x12 = 0 ∨ x12 = 1 then
            some (x12, (sI oP 3 3), oD13)
          else none
      else
        some (0, oP, oD)
def f_X2_takes (oP : St) (oD : St) (a1 : Int32) : Option (Int32 × St × St) :=
  if (oP.1 3) = 0 then
    bn2 (f_X2_takesFirstDigit oP (a1 - 48)) fun x2 oP3 =>
    if x2 = 0 ∨ x2 = 1 then
      some (x2, oP3, oD)
    else none
  else
    if (oP.1 3) = 1 then
      bn2 (f_X2_takesSecondDigit oP (a1 - 48)) fun x6 oP7 =>
      if x6 = 0 ∨ x6 = 1 then
        some (x6, oP7, oD)
      else none
    else
      if (oP.1 3) = 2 then
        bn3 (f_X2_takesMark oP oD a1) fun x10 oP11 oD12 =>
        if x10 = 0 ∨ x10 = 1 then
          some (x10, oP11, oD12)
        else none
      else
        if (oP.1 3) = 3 then
          bn1 (f_X2_valueOf a1) fun x15 =>
          bn2 (f_X2_takesAcross oP oD x15) fun x17 oP18 =>
          if x17 = 0 ∨ x17 = 1 then
            some (x17, oP18, oD)
          else none
        else
          if (oP.1 3) = 4 then
            bn1 (f_X2_valueOf a1) fun x21 =>
            bn2 (f_X2_takesDown oP oD x21) fun x23 oP24 =>
            if x23 = 0 ∨ x23 = 1 then
              some (x23, oP24, oD)
            else none
          else
            bn3 (f_X2_takesTurn oP oD a1) fun x26 oP27 oD28 =>
            if x26 = 0 ∨ x26 = 1 then
              some (x26, oP27, oD28)
            else none
def f_X2_read_L14 : Nat → Int32 → St → St → Option (Int32 × St × St)
  | 0, _, _, _ => none
  | n + 1, v1, oP, oD =>
    if (oP.1 1) ≤ v1 then
      some (oP.1 1, oP, oD)
    else
      bn1 (ag 50 (oP.2.2 0) v1) fun x4 =>
      bn3 (f_X2_takes oP oD x4) fun x6 oP7 oD8 =>
      if x6 = 0 then
        some (v1, oP7, oD8)
      else
        f_X2_read_L14  n (v1 + 1) oP7 oD8
theorem f_X2_read_L14_s (n : Nat) (v1 : Int32) (oP : St) (oD : St) : f_X2_read_L14  (n + 1) v1 oP oD =
    if (oP.1 1) ≤ v1 then
      some (oP.1 1, oP, oD)
    else
      bn1 (ag 50 (oP.2.2 0) v1) fun x4 =>
      bn3 (f_X2_takes oP oD x4) fun x6 oP7 oD8 =>
      if x6 = 0 then
        some (v1, oP7, oD8)
      else
        f_X2_read_L14  n (v1 + 1) oP7 oD8 := rfl
def f_X2_read (oP : St) (oD : St) : Option (Int32 × St × St) :=
  bn1 (f_X0_clear oD) fun oD1 =>
  f_X2_read_L14 fu 0 ((sI oP 3 0)) oD1
def f_X6_fault (oP : St) (oD : St) : Option (Int32 × St × St) :=
  bn3 (f_X2_read oP oD) fun x1 oP2 oD3 =>
  some (x1, oP2, oD3)
def f_X2_isSheet (oP : St) (oD : St) : Option (Int32 × St × St) :=
  bn3 (f_X2_read oP oD) fun x1 oP2 oD3 =>
  if x1 = (oP2.1 1) then
    if (oP2.1 3) = 3 then
      some (1, oP2, oD3)
    else
      some (0, oP2, oD3)
  else
    some (0, oP2, oD3)
def f_X0_become_L22 (oE : St) : Nat → Int32 → St → Option (St)
  | 0, _, _ => none
  | n + 1, v2, oB =>
    if (oE.1 2) ≤ v2 then
      some (oB)
    else
      bn1 (ag 14 (oE.2.2 8) v2) fun x4 =>
      bn1 (ag 14 (oE.2.2 9) v2) fun x6 =>
      bn1 (ag 14 (oE.2.2 10) v2) fun x8 =>
      bn2 (f_X0_add oB x4 x6 x8) fun x10 oB11 =>
      f_X0_become_L22 oE n (v2 + 1) oB11
theorem f_X0_become_L22_s (oE : St) (n : Nat) (v2 : Int32) (oB : St) : f_X0_become_L22 oE (n + 1) v2 oB =
    if (oE.1 2) ≤ v2 then
      some (oB)
    else
      bn1 (ag 14 (oE.2.2 8) v2) fun x4 =>
      bn1 (ag 14 (oE.2.2 9) v2) fun x6 =>
      bn1 (ag 14 (oE.2.2 10) v2) fun x8 =>
      bn2 (f_X0_add oB x4 x6 x8) fun x10 oB11 =>
      f_X0_become_L22 oE n (v2 + 1) oB11 := rfl
def f_X0_become (oB : St) (oE : St) : Option (St) :=
  bn1 (f_X0_clear oB) fun oB1 =>
  f_X0_become_L22 oE fu 0 ((sI (sI oB1 0 (oE.1 0)) 1 (oE.1 1)))
def f_X3_drop (oR : St) : Option (St) :=
  some ((sI (sI oR 3 0) 4 0))
def f_X6_forget (oR : St) (oT : St) : Option (St × St) :=
  bn1 (f_X3_drop oR) fun oR1 =>
  some (oR1, (sI oT 3 0))
def f_X6_sheet (oX : St) (oP : St) (oD : St) (oR : St) (oT : St) (oB : St) : Option (Int32 × St × St × St × St × St × St) :=
  bn3 (f_X2_isSheet oP oD) fun x1 oP2 oD3 =>
  if x1 = 0 then
    some ((-103), oX, oP2, oD3, oR, oT, oB)
  else
    bn1 (f_X0_become oB oD3) fun oB6 =>
    bn2 (f_X6_forget oR oT) fun oR8 oT9 =>
    some (oB6.1 2, (sI oX 6 ((oX.1 6) + 1)), (sI oP2 1 0), oD3, oR8, oT9, oB6)
def f_X0_isThere (oB : St) : Option (Int32) :=
  if (oB.1 0) ≤ 0 then
    some (0)
  else
    some (1)
def f_X0_digitAt (a0 : Int32) (a1 : Int32) : Option (Int32) :=
  if a1 = 0 then
    some (48 + (a0 - a0 / 10 * 10))
  else
    some (48 + (a0 / 10))
def f_X0_has (oB : St) (a1 : Int32) : Option (Int32) :=
  if a1 < 0 then
    some (0)
  else
    if (oB.1 2) ≤ a1 then
      some (0)
    else
      some (1)
def f_X0_signOf (a0 : Int32) : Option (Int32) :=
  if 10 ≤ a0 then
    some ((97 + a0) - 10)
  else
    some (48 + a0)
def f_X0_dotLetter (oB : St) (a1 : Int32) : Option (Int32) :=
  bn1 (f_X0_has oB (a1 / 3)) fun x1 =>
  if x1 = 0 then
    some ((-1))
  else
    if (a1 - a1 / 3 * 3) = 0 then
      bn1 (ag 14 (oB.2.2 8) (a1 / 3)) fun x5 =>
      bn1 (f_X0_signOf x5) fun x7 =>
      some (x7)
    else
      if (a1 - a1 / 3 * 3) = 1 then
        bn1 (ag 14 (oB.2.2 9) (a1 / 3)) fun x10 =>
        bn1 (f_X0_signOf x10) fun x12 =>
        some (x12)
      else
        bn1 (ag 14 (oB.2.2 10) (a1 / 3)) fun x14 =>
        if x14 = ((-1)) then
          some (45)
        else
          bn1 (ag 14 (oB.2.2 10) (a1 / 3)) fun x17 =>
          some (48 + x17)
def f_X0_textAt (oB : St) (a1 : Int32) : Option (Int32) :=
  if 10 ≤ (oB.1 0) then
    if 10 ≤ (oB.1 1) then
      if 2 ≤ a1 then
        if a1 = 2 then
          some (120)
        else
          if (2 + 3) ≤ a1 then
            if a1 = (2 + 3) then
              some (58)
            else
              bn1 (f_X0_dotLetter oB ((a1 - (2 + 3)) - 1)) fun x7 =>
              some (x7)
          else
            bn1 (f_X0_digitAt (oB.1 1) (((2 + 3) - 1) - a1)) fun x9 =>
            some (x9)
      else
        bn1 (f_X0_digitAt (oB.1 0) ((2 - 1) - a1)) fun x11 =>
        some (x11)
    else
      if 2 ≤ a1 then
        if a1 = 2 then
          some (120)
        else
          if (2 + 2) ≤ a1 then
            if a1 = (2 + 2) then
              some (58)
            else
              bn1 (f_X0_dotLetter oB ((a1 - (2 + 2)) - 1)) fun x17 =>
              some (x17)
          else
            bn1 (f_X0_digitAt (oB.1 1) (((2 + 2) - 1) - a1)) fun x19 =>
            some (x19)
      else
        bn1 (f_X0_digitAt (oB.1 0) ((2 - 1) - a1)) fun x21 =>
        some (x21)
  else
    if 10 ≤ (oB.1 1) then
      if 1 ≤ a1 then
        if a1 = 1 then
          some (120)
        else
          if (1 + 3) ≤ a1 then
            if a1 = (1 + 3) then
              some (58)
            else
              bn1 (f_X0_dotLetter oB ((a1 - (1 + 3)) - 1)) fun x28 =>
              some (x28)
          else
            bn1 (f_X0_digitAt (oB.1 1) (((1 + 3) - 1) - a1)) fun x30 =>
            some (x30)
      else
        bn1 (f_X0_digitAt (oB.1 0) ((1 - 1) - a1)) fun x32 =>
        some (x32)
    else
      if 1 ≤ a1 then
        if a1 = 1 then
          some (120)
        else
          if (1 + 2) ≤ a1 then
            if a1 = (1 + 2) then
              some (58)
            else
              bn1 (f_X0_dotLetter oB ((a1 - (1 + 2)) - 1)) fun x38 =>
              some (x38)
          else
            bn1 (f_X0_digitAt (oB.1 1) (((1 + 2) - 1) - a1)) fun x40 =>
            some (x40)
      else
        bn1 (f_X0_digitAt (oB.1 0) ((1 - 1) - a1)) fun x42 =>
        some (x42)
def f_X6_ink (oB : St) (a1 : Int32) : Option (Int32) :=
  bn1 (f_X0_isThere oB) fun x1 =>
  if x1 = 0 then
    some ((-103))
  else
    if 0 ≤ a1 then
      bn1 (f_X0_textAt oB a1) fun x5 =>
      some (x5)
    else
      some ((-101))
def f_X6_comes (oR : St) (oT : St) (oB : St) (a1 : Int32) (a2 : Int32) (a3 : Int32) : Option (Int32 × St × St × St) :=
  bn2 (f_X0_add oB a1 a2 a3) fun x1 oB2 =>
  if x1 = 0 then
    if x1 = 0 ∨ x1 = 1 then
      some (x1, oR, oT, oB2)
    else none
  else
    bn2 (f_X6_forget oR oT) fun oR5 oT6 =>
    if x1 = 0 ∨ x1 = 1 then
      some (x1, oR5, oT6, oB2)
    else none
def f_X6_dot (oR : St) (oT : St) (oB : St) (a1 : Int32) (a2 : Int32) (a3 : Int32) : Option (Int32 × St × St × St) :=
  bn1 (f_X0_isThere oB) fun x1 =>
  if x1 = 0 then
    some ((-103), oR, oT, oB)
  else
    bn1 (f_X0_holds oB a1 a2) fun x4 =>
    if x4 = 0 then
      some ((-102), oR, oT, oB)
    else
      if a3 < ((-1)) then
        some ((-102), oR, oT, oB)
      else
        if a3 < 8 then
          bn1 (f_X0_isTaken oB a1 a2) fun x9 =>
          if x9 = 0 then
            bn4 (f_X6_comes oR oT oB a1 a2 a3) fun x12 oR13 oT14 oB15 =>
            if x12 = 0 then
              some ((-104), oR13, oT14, oB15)
            else
              some ((oB15.1 2) - 1, oR13, oT14, oB15)
          else
            some ((-103), oR, oT, oB)
        else
          some ((-102), oR, oT, oB)
def f_X0_remove_L11 (K : St → Option (St)) : Nat → Int32 → St → Option (St)
  | 0, _, _ => none
  | n + 1, v2, oB =>
    if (oB.1 2) ≤ (v2 + 1) then
      K oB
    else
      bn1 (ag 14 (oB.2.2 8) (v2 + 1)) fun x5 =>
      bn1 (aw 14 oB 8 v2 x5) fun oB8 =>
      bn1 (ag 14 (oB8.2.2 9) (v2 + 1)) fun x9 =>
      bn1 (aw 14 oB8 9 v2 x9) fun oB12 =>
      bn1 (ag 14 (oB12.2.2 10) (v2 + 1)) fun x13 =>
      bn1 (aw 14 oB12 10 v2 x13) fun oB16 =>
      f_X0_remove_L11 K n (v2 + 1) oB16
theorem f_X0_remove_L11_s (K : St → Option (St)) (n : Nat) (v2 : Int32) (oB : St) : f_X0_remove_L11 K (n + 1) v2 oB =
    if (oB.1 2) ≤ (v2 + 1) then
      K oB
    else
      bn1 (ag 14 (oB.2.2 8) (v2 + 1)) fun x5 =>
      bn1 (aw 14 oB 8 v2 x5) fun oB8 =>
      bn1 (ag 14 (oB8.2.2 9) (v2 + 1)) fun x9 =>
      bn1 (aw 14 oB8 9 v2 x9) fun oB12 =>
      bn1 (ag 14 (oB12.2.2 10) (v2 + 1)) fun x13 =>
      bn1 (aw 14 oB12 10 v2 x13) fun oB16 =>
      f_X0_remove_L11 K n (v2 + 1) oB16 := rfl
def f_X0_remove (oB : St) (a1 : Int32) : Option (St) :=
  bn1 (f_X0_has oB a1) fun x1 =>
  if x1 = 0 then
    some (oB)
  else
    f_X0_remove_L11  (fun (oB17 : St) =>
        some ((sI oB17 2 ((oB17.1 2) - 1)))
      ) fu a1 oB
def f_X6_lift (oR : St) (oT : St) (oB : St) (a1 : Int32) : Option (Int32 × St × St × St) :=
  bn1 (f_X0_has oB a1) fun x1 =>
  if x1 = 0 then
    some ((-101), oR, oT, oB)
  else
    bn1 (f_X0_remove oB a1) fun oB4 =>
    bn2 (f_X6_forget oR oT) fun oR6 oT7 =>
    some (oB4.1 2, oR6, oT7, oB4)
def f_X6_isBeyond (a0 : Int32) : Option (Int32) :=
  if a0 < ((-31)) then
    some (1)
  else
    if a0 ≤ 62 then
      some (0)
    else
      some (1)
def f_X6_slantingSteps_L2 (v0 : Int32) : Nat → Int32 → Option (Int32)
  | 0, _ => none
  | n + 1, v1 =>
    if v0 ≤ v1 then
      some (v1)
    else
      if (v0 * v0) < ((2 * (v1 + 1)) * (v1 + 1)) then
        some (v1)
      else
        f_X6_slantingSteps_L2 v0 n (v1 + 1)
theorem f_X6_slantingSteps_L2_s (v0 : Int32) (n : Nat) (v1 : Int32) : f_X6_slantingSteps_L2 v0 (n + 1) v1 =
    if v0 ≤ v1 then
      some (v1)
    else
      if (v0 * v0) < ((2 * (v1 + 1)) * (v1 + 1)) then
        some (v1)
      else
        f_X6_slantingSteps_L2 v0 n (v1 + 1) := rfl
def f_X6_slantingSteps (a0 : Int32) : Option (Int32) :=
  f_X6_slantingSteps_L2 a0 fu 0
def f_X6_arc_L66 (v1 : Int32) (v2 : Int32) (v3 : Int32) (v4 : Int32) (v5 : Int32) : Nat → Int32 → Int32 → St → St → St → Option (Int32 × St × St × St)
  | 0, _, _, _, _, _ => none
  | n + 1, v6, v7, oR, oT, oB =>
    if 8 ≤ v7 then
      some (v6, oR, oT, oB)
    else
      if (v7 - v7 / 2 * 2) = 0 then
        if ((v4 >>> (v7 &&& 31)) &&& 1) = 1 then
          bn1 (ag 8 z_tX v7) fun x34 =>
          bn1 (ag 8 z_tY v7) fun x36 =>
          bn4 (f_X6_comes oR oT oB (v1 - (v3 * x34)) (v2 - (v3 * x36)) v7) fun x38 oR39 oT40 oB41 =>
          if x38 = 0 then
            f_X6_arc_L66 v1 v2 v3 v4 v5 n v6 (v7 + 1) oR39 oT40 oB41
          else
            f_X6_arc_L66 v1 v2 v3 v4 v5 n (v6 + 1) (v7 + 1) oR39 oT40 oB41
        else
          f_X6_arc_L66 v1 v2 v3 v4 v5 n v6 (v7 + 1) oR oT oB
      else
        if ((v4 >>> (v7 &&& 31)) &&& 1) = 1 then
          bn1 (ag 8 z_tX v7) fun x21 =>
          bn1 (ag 8 z_tY v7) fun x23 =>
          bn4 (f_X6_comes oR oT oB (v1 - (v5 * x21)) (v2 - (v5 * x23)) v7) fun x25 oR26 oT27 oB28 =>
          if x25 = 0 then
            f_X6_arc_L66 v1 v2 v3 v4 v5 n v6 (v7 + 1) oR26 oT27 oB28
          else
            f_X6_arc_L66 v1 v2 v3 v4 v5 n (v6 + 1) (v7 + 1) oR26 oT27 oB28
        else
          f_X6_arc_L66 v1 v2 v3 v4 v5 n v6 (v7 + 1) oR oT oB
theorem f_X6_arc_L66_s (v1 : Int32) (v2 : Int32) (v3 : Int32) (v4 : Int32) (v5 : Int32) (n : Nat) (v6 : Int32) (v7 : Int32) (oR : St) (oT : St) (oB : St) : f_X6_arc_L66 v1 v2 v3 v4 v5 (n + 1) v6 v7 oR oT oB =
    if 8 ≤ v7 then
      some (v6, oR, oT, oB)
    else
      if (v7 - v7 / 2 * 2) = 0 then
        if ((v4 >>> (v7 &&& 31)) &&& 1) = 1 then
          bn1 (ag 8 z_tX v7) fun x34 =>
          bn1 (ag 8 z_tY v7) fun x36 =>
          bn4 (f_X6_comes oR oT oB (v1 - (v3 * x34)) (v2 - (v3 * x36)) v7) fun x38 oR39 oT40 oB41 =>
          if x38 = 0 then
            f_X6_arc_L66 v1 v2 v3 v4 v5 n v6 (v7 + 1) oR39 oT40 oB41
          else
            f_X6_arc_L66 v1 v2 v3 v4 v5 n (v6 + 1) (v7 + 1) oR39 oT40 oB41
        else
          f_X6_arc_L66 v1 v2 v3 v4 v5 n v6 (v7 + 1) oR oT oB
      else
        if ((v4 >>> (v7 &&& 31)) &&& 1) = 1 then
          bn1 (ag 8 z_tX v7) fun x21 =>
          bn1 (ag 8 z_tY v7) fun x23 =>
          bn4 (f_X6_comes oR oT oB (v1 - (v5 * x21)) (v2 - (v5 * x23)) v7) fun x25 oR26 oT27 oB28 =>
          if x25 = 0 then
            f_X6_arc_L66 v1 v2 v3 v4 v5 n v6 (v7 + 1) oR26 oT27 oB28
          else
            f_X6_arc_L66 v1 v2 v3 v4 v5 n (v6 + 1) (v7 + 1) oR26 oT27 oB28
        else
          f_X6_arc_L66 v1 v2 v3 v4 v5 n v6 (v7 + 1) oR oT oB := rfl
def f_X6_arc (oR : St) (oT : St) (oB : St) (a1 : Int32) (a2 : Int32) (a3 : Int32) (a4 : Int32) : Option (Int32 × St × St × St) :=
  bn1 (f_X0_isThere oB) fun x1 =>
  if x1 = 0 then
    some ((-103), oR, oT, oB)
  else
    bn1 (f_X6_isBeyond a1) fun x4 =>
    if x4 = 0 then
      bn1 (f_X6_isBeyond a2) fun x7 =>
      if x7 = 0 then
        if a3 < 1 then
          some ((-102), oR, oT, oB)
        else
          if 31 < a3 then
            some ((-102), oR, oT, oB)
          else
            if a4 < 0 then
              some ((-102), oR, oT, oB)
            else
              if a4 ≤ 255 then
                bn1 (f_X6_slantingSteps a3) fun x14 =>
                f_X6_arc_L66 a1 a2 a3 a4 x14 fu 0 0 oR oT oB
              else
                some ((-102), oR, oT, oB)
      else
        some ((-102), oR, oT, oB)
    else
      some ((-102), oR, oT, oB)
def f_X6_nextSeed (a0 : Int32) : Option (Int32) :=
  some ((((1103515245 * ((a0 : Int32).toInt64)) + 12345) &&& 2147483647 : Int64).toInt32)
def f_X6_drawn (a0 : Int32) (a1 : Int32) : Option (Int32) :=
  if 1 ≤ a1 then
    if ¬ a1 = 0 then
      some ((a0 / 65536) - (a0 / 65536) / a1 * a1)
    else none
  else
    some (0)
def f_X6_strew_L39 (v1 : Int32) : Nat → Int32 → Int32 → Int32 → St → St → St → Option (Int32 × St × St × St)
  | 0, _, _, _, _, _, _ => none
  | n + 1, v3, v4, v5, oR, oT, oB =>
    if v1 ≤ v5 then
      some (v3, oR, oT, oB)
    else
      bn1 (f_X6_nextSeed v4) fun x8 =>
      bn1 (f_X6_drawn x8 (oB.1 0)) fun x10 =>
      bn1 (f_X6_nextSeed x8) fun x12 =>
      bn1 (f_X6_drawn x12 (oB.1 1)) fun x14 =>
      bn1 (f_X6_nextSeed x12) fun x16 =>
      bn1 (f_X6_drawn x16 9) fun x18 =>
      if x18 = 8 then
        bn4 (f_X6_comes oR oT oB x10 x14 ((-1))) fun x27 oR28 oT29 oB30 =>
        if x27 = 0 then
          f_X6_strew_L39 v1 n v3 x16 (v5 + 1) oR28 oT29 oB30
        else
          f_X6_strew_L39 v1 n (v3 + 1) x16 (v5 + 1) oR28 oT29 oB30
      else
        bn4 (f_X6_comes oR oT oB x10 x14 x18) fun x21 oR22 oT23 oB24 =>
        if x21 = 0 then
          f_X6_strew_L39 v1 n v3 x16 (v5 + 1) oR22 oT23 oB24
        else
          f_X6_strew_L39 v1 n (v3 + 1) x16 (v5 + 1) oR22 oT23 oB24
theorem f_X6_strew_L39_s (v1 : Int32) (n : Nat) (v3 : Int32) (v4 : Int32) (v5 : Int32) (oR : St) (oT : St) (oB : St) : f_X6_strew_L39 v1 (n + 1) v3 v4 v5 oR oT oB =
    if v1 ≤ v5 then
      some (v3, oR, oT, oB)
    else
      bn1 (f_X6_nextSeed v4) fun x8 =>
      bn1 (f_X6_drawn x8 (oB.1 0)) fun x10 =>
      bn1 (f_X6_nextSeed x8) fun x12 =>
      bn1 (f_X6_drawn x12 (oB.1 1)) fun x14 =>
      bn1 (f_X6_nextSeed x12) fun x16 =>
      bn1 (f_X6_drawn x16 9) fun x18 =>
      if x18 = 8 then
        bn4 (f_X6_comes oR oT oB x10 x14 ((-1))) fun x27 oR28 oT29 oB30 =>
        if x27 = 0 then
          f_X6_strew_L39 v1 n v3 x16 (v5 + 1) oR28 oT29 oB30
        else
          f_X6_strew_L39 v1 n (v3 + 1) x16 (v5 + 1) oR28 oT29 oB30
      else
        bn4 (f_X6_comes oR oT oB x10 x14 x18) fun x21 oR22 oT23 oB24 =>
        if x21 = 0 then
          f_X6_strew_L39 v1 n v3 x16 (v5 + 1) oR22 oT23 oB24
        else
          f_X6_strew_L39 v1 n (v3 + 1) x16 (v5 + 1) oR22 oT23 oB24 := rfl
def f_X6_strew (oR : St) (oT : St) (oB : St) (a1 : Int32) (a2 : Int32) : Option (Int32 × St × St × St) :=
  bn1 (f_X0_isThere oB) fun x1 =>
  if x1 = 0 then
    some ((-103), oR, oT, oB)
  else
    if a1 < 1 then
      some ((-102), oR, oT, oB)
    else
      if 14 < a1 then
        some ((-102), oR, oT, oB)
      else
        if 0 ≤ a2 then
          f_X6_strew_L39 a1 fu 0 a2 0 oR oT oB
        else
          some ((-102), oR, oT, oB)
def f_X3_ownerOf_L2 (oR : St) (v1 : Int32) : Nat → Int32 → Option (Int32)
  | 0, _ => none
  | n + 1, v2 =>
    if (oR.1 4) ≤ v2 then
      some ((-1))
    else
      bn1 (ag 7 (oR.2.2 6) v2) fun x2 =>
      if ((x2 >>> (v1 &&& 31)) &&& 1) = 1 then
        some (v2)
      else
        f_X3_ownerOf_L2 oR v1 n (v2 + 1)
theorem f_X3_ownerOf_L2_s (oR : St) (v1 : Int32) (n : Nat) (v2 : Int32) : f_X3_ownerOf_L2 oR v1 (n + 1) v2 =
    if (oR.1 4) ≤ v2 then
      some ((-1))
    else
      bn1 (ag 7 (oR.2.2 6) v2) fun x2 =>
      if ((x2 >>> (v1 &&& 31)) &&& 1) = 1 then
        some (v2)
      else
        f_X3_ownerOf_L2 oR v1 n (v2 + 1) := rfl
def f_X3_ownerOf (oR : St) (a1 : Int32) : Option (Int32) :=
  f_X3_ownerOf_L2 oR a1 fu 0
def f_X6_told (oR : St) (oB : St) (a1 : Int32) (a2 : Int32) : Option (Int32) :=
  bn1 (f_X0_has oB a1) fun x1 =>
  if x1 = 0 then
    some ((-101))
  else
    if a2 = 0 then
      bn1 (ag 14 (oB.2.2 8) a1) fun x5 =>
      some (x5)
    else
      if a2 = 1 then
        bn1 (ag 14 (oB.2.2 9) a1) fun x8 =>
        some (x8)
      else
        if a2 = 2 then
          bn1 (ag 14 (oB.2.2 10) a1) fun x11 =>
          some (x11)
        else
          if a2 = 3 then
            bn1 (f_X3_ownerOf oR a1) fun x14 =>
            some (x14)
          else
            some ((-102))
def f_X6_about (oB : St) (a1 : Int32) : Option (Int32) :=
  if a1 < 0 then
    some ((-102))
  else
    if a1 ≤ 7 then
      bn1 (f_X0_isThere oB) fun x3 =>
      if x3 = 0 then
        some ((-103))
      else
        if a1 = 0 then
          some (oB.1 0)
        else
          if a1 = 1 then
            some (oB.1 1)
          else
            if a1 = 2 then
              some (oB.1 2)
            else
              if a1 = 3 then
                some (oB.1 3)
              else
                if a1 = 4 then
                  some (oB.1 4)
                else
                  if a1 = 5 then
                    some (oB.1 5)
                  else
                    if a1 = 6 then
                      some (oB.1 6)
                    else
                      some (oB.1 7)
    else
      some ((-102))
def f_X0_allows (oB : St) (a1 : Int32) (a2 : Int32) : Option (Int32) :=
  if a1 = 0 then
    if a2 < 1 then
      some (0)
    else
      if (oB.1 4) < a2 then
        some (0)
      else
        some (1)
  else
    if a1 = 1 then
      if a2 < (oB.1 3) then
        some (0)
      else
        if 22 < a2 then
          some (0)
        else
          some (1)
    else
      if a1 = 2 then
        if a2 < 0 then
          some (0)
        else
          if 4 < a2 then
            some (0)
          else
            some (1)
      else
        if a1 = 3 then
          if a2 < 2 then
            some (0)
          else
            if 14 < a2 then
              some (0)
            else
              some (1)
        else
          if a1 = 4 then
            if a2 < 1 then
              some (0)
            else
              if 8 < a2 then
                some (0)
              else
                some (1)
          else
            some (0)
def f_X0_setBound (oB : St) (a1 : Int32) (a2 : Int32) : Option (St) :=
  if a1 = 0 then
    some ((sI oB 3 a2))
  else
    if a1 = 1 then
      some ((sI oB 4 a2))
    else
      if a1 = 2 then
        some ((sI oB 5 a2))
      else
        if a1 = 3 then
          some ((sI oB 6 a2))
        else
          if a1 = 4 then
            some ((sI oB 7 a2))
          else
            some (oB)
def f_X6_bound (oR : St) (oT : St) (oB : St) (a1 : Int32) (a2 : Int32) : Option (Int32 × St × St × St) :=
  bn1 (f_X0_isThere oB) fun x1 =>
  if x1 = 0 then
    some ((-103), oR, oT, oB)
  else
    bn1 (f_X0_allows oB a1 a2) fun x4 =>
    if x4 = 0 then
      some ((-102), oR, oT, oB)
    else
      bn1 (f_X6_about oB (a1 + 3)) fun x7 =>
      bn1 (f_X0_setBound oB a1 a2) fun oB9 =>
      bn2 (f_X6_forget oR oT) fun oR11 oT12 =>
      some (x7, oR11, oT12, oB9)
def f_X1_lay (oC : St) (oB : St) (a1 : Int32) (a2 : Int32) (a3 : Int32) : Option (St) :=
  bn1 (ag 14 (oB.2.2 8) a2) fun x1 =>
  bn1 (ag 14 (oB.2.2 8) a1) fun x3 =>
  bn1 (ag 14 (oB.2.2 9) a2) fun x5 =>
  bn1 (ag 14 (oB.2.2 9) a1) fun x7 =>
  bn1 (ag 14 (oB.2.2 8) a3) fun x9 =>
  bn1 (ag 14 (oB.2.2 8) a1) fun x11 =>
  bn1 (ag 14 (oB.2.2 9) a3) fun x13 =>
  bn1 (ag 14 (oB.2.2 9) a1) fun x15 =>
  bn1 (some (((x1 - x3) * (x1 - x3)) + ((x5 - x7) * (x5 - x7)))) fun y17 =>
  bn1 (some (((x9 - x11) * (x9 - x11)) + ((x13 - x15) * (x13 - x15)))) fun y19 =>
  bn1 (some (((x1 - x3) * (x13 - x15)) - ((x5 - x7) * (x9 - x11)))) fun y21 =>
  if 0 ≤ y21 then
    bn1 (some ((2 * y21) * 1)) fun y24 =>
    bn1 (ag 14 (oB.2.2 8) a1) fun x26 =>
    bn1 (some ((y24 * x26) + (1 * (((x13 - x15) * y17) - ((x5 - x7) * y19))))) fun y28 =>
    bn1 (ag 14 (oB.2.2 9) a1) fun x30 =>
    bn1 (some ((y24 * x30) + (1 * (((x1 - x3) * y19) - ((x9 - x11) * y17))))) fun y32 =>
    some ((sI (sI (sI (sI (sI (sI oC 1 a1) 2 a2) 3 a3) 4 y24) 5 y28) 6 y32))
  else
    bn1 (some ((2 * y21) * ((-1)))) fun y34 =>
    bn1 (ag 14 (oB.2.2 8) a1) fun x36 =>
    bn1 (some ((y34 * x36) + (((-1)) * (((x13 - x15) * y17) - ((x5 - x7) * y19))))) fun y38 =>
    bn1 (ag 14 (oB.2.2 9) a1) fun x40 =>
    bn1 (some ((y34 * x40) + (((-1)) * (((x1 - x3) * y19) - ((x9 - x11) * y17))))) fun y42 =>
    some ((sI (sI (sI (sI (sI (sI oC 1 a1) 2 a2) 3 a3) 4 y34) 5 y38) 6 y42))
def f_X1_isLine (oC : St) : Option (Int32) :=
  if (oC.1 4) = 0 then
    some (1)
  else
    some (0)
def f_J9_floorDiv_7cf53 (a0 : Int32) (a1 : Int32) : Option (Int32) :=
  if ¬ a1 = 0 then
    if 0 ≤ (a0 ^^^ a1) then
      some (a0 / a1)
    else
      if ((a0 / a1) * a1) = a0 then
        some (a0 / a1)
      else
        some ((a0 / a1) - 1)
  else none
def f_X1_cellX (oC : St) : Option (Int32) :=
  if (oC.1 4) = 0 then
    some (0)
  else
    bn1 (f_J9_floorDiv_7cf53 (oC.1 5) (oC.1 4)) fun x2 =>
    some (x2)
def f_X1_cellY (oC : St) : Option (Int32) :=
  if (oC.1 4) = 0 then
    some (0)
  else
    bn1 (f_J9_floorDiv_7cf53 (oC.1 6) (oC.1 4)) fun x2 =>
    some (x2)
def f_X0_agrees (oB : St) (a1 : Int32) (a2 : Int32) (a3 : Int32) (a4 : Int32) : Option (Int32) :=
  bn1 (ag 14 (oB.2.2 10) a1) fun x1 =>
  if x1 < 0 then
    some (1)
  else
    if x1 < 8 then
      bn1 (ag 14 (oB.2.2 8) a1) fun x5 =>
      bn1 (ag 14 (oB.2.2 9) a1) fun x7 =>
      bn1 (ag 8 z_tX x1) fun x9 =>
      bn1 (ag 8 z_tY x1) fun x11 =>
      bn1 (some (((a2 - (a4 * x5)) * x9) + ((a3 - (a4 * x7)) * x11))) fun y13 =>
      bn1 (ag 8 z_tY x1) fun x15 =>
      bn1 (ag 8 z_tX x1) fun x17 =>
      bn1 (some (((a2 - (a4 * x5)) * x15) - ((a3 - (a4 * x7)) * x17))) fun y19 =>
      if y13 ≤ 0 then
        some (0)
      else
        if y13 < y19 then
          some (0)
        else
          if y13 < (-y19) then
            some (0)
          else
            some (1)
    else
      some (1)
def f_X1_agreeing (oC : St) (oB : St) : Option (Int32) :=
  bn1 (f_X0_agrees oB (oC.1 1) (oC.1 5) (oC.1 6) (oC.1 4)) fun x1 =>
  if x1 = 0 then
    bn1 (f_X0_agrees oB (oC.1 2) (oC.1 5) (oC.1 6) (oC.1 4)) fun x4 =>
    if x4 = 0 then
      bn1 (f_X0_agrees oB (oC.1 3) (oC.1 5) (oC.1 6) (oC.1 4)) fun x7 =>
      if x7 = 0 then
        some ((0 + 0) + 0)
      else
        some ((0 + 0) + 1)
    else
      bn1 (f_X0_agrees oB (oC.1 3) (oC.1 5) (oC.1 6) (oC.1 4)) fun x10 =>
      if x10 = 0 then
        some ((0 + 1) + 0)
      else
        some ((0 + 1) + 1)
  else
    bn1 (f_X0_agrees oB (oC.1 2) (oC.1 5) (oC.1 6) (oC.1 4)) fun x13 =>
    if x13 = 0 then
      bn1 (f_X0_agrees oB (oC.1 3) (oC.1 5) (oC.1 6) (oC.1 4)) fun x16 =>
      if x16 = 0 then
        some ((1 + 0) + 0)
      else
        some ((1 + 0) + 1)
    else
      bn1 (f_X0_agrees oB (oC.1 3) (oC.1 5) (oC.1 6) (oC.1 4)) fun x19 =>
      if x19 = 0 then
        some ((1 + 1) + 0)
      else
        some ((1 + 1) + 1)
def f_X1_rootOf_L7 (v0 : Int64) : Nat → Int64 → Int64 → Option (Int32)
  | 0, _, _ => none
  | n + 1, v2, v4 =>
    if (lg_cmp v4 0) ≤ 0 then
      some ((v2 : Int64).toInt32)
    else
      if 0 < (lg_cmp ((v2 + v4) * (v2 + v4)) v0) then
        bn1 (some (v4 >>> ((1 : Int32).toInt64 &&& 63))) fun y3 =>
        f_X1_rootOf_L7 v0 n v2 y3
      else
        bn1 (some (v4 >>> ((1 : Int32).toInt64 &&& 63))) fun y5 =>
        f_X1_rootOf_L7 v0 n (v2 + v4) y5
theorem f_X1_rootOf_L7_s (v0 : Int64) (n : Nat) (v2 : Int64) (v4 : Int64) : f_X1_rootOf_L7 v0 (n + 1) v2 v4 =
    if (lg_cmp v4 0) ≤ 0 then
      some ((v2 : Int64).toInt32)
    else
      if 0 < (lg_cmp ((v2 + v4) * (v2 + v4)) v0) then
        bn1 (some (v4 >>> ((1 : Int32).toInt64 &&& 63))) fun y3 =>
        f_X1_rootOf_L7 v0 n v2 y3
      else
        bn1 (some (v4 >>> ((1 : Int32).toInt64 &&& 63))) fun y5 =>
        f_X1_rootOf_L7 v0 n (v2 + v4) y5 := rfl
def f_X1_rootOf (a0 : Int64) : Option (Int32) :=
  f_X1_rootOf_L7 a0 fu 0 1048576
def f_X1_radius (oC : St) (oB : St) : Option (Int32) :=
  if (oC.1 4) = 0 then
    some (0)
  else
    bn1 (ag 14 (oB.2.2 8) (oC.1 1)) fun x2 =>
    bn1 (some (((oC.1 5) - ((oC.1 4) * x2) : Int32).toInt64)) fun y4 =>
    bn1 (ag 14 (oB.2.2 9) (oC.1 1)) fun x6 =>
    bn1 (some (((oC.1 6) - ((oC.1 4) * x6) : Int32).toInt64)) fun y8 =>
    if ¬ (((oC.1 4 : Int32).toInt64) * ((oC.1 4 : Int32).toInt64)) = 0 then
      bn1 (f_X1_rootOf (((y4 * y4) + (y8 * y8)) / (((oC.1 4 : Int32).toInt64) * ((oC.1 4 : Int32).toInt64)))) fun x11 =>
      some (x11)
    else none
def f_X6_keyOf (a0 : Int32) (a1 : Int32) (a2 : Int32) : Option (Int32) :=
  some (((a2 <<< ((10 : Int32) &&& 31)) ||| (a1 <<< ((5 : Int32) &&& 31))) ||| a0)
def f_X1_vote (oC : St) (oB : St) : Option (Int32) :=
  bn1 (f_X1_isLine oC) fun x1 =>
  if x1 = 0 then
    bn1 (f_X1_cellX oC) fun x4 =>
    bn1 (f_X1_cellY oC) fun x6 =>
    bn1 (f_X0_holds oB x4 x6) fun x8 =>
    if x8 = 0 then
      some ((-1))
    else
      bn1 (f_X1_agreeing oC oB) fun x11 =>
      if 3 ≤ x11 then
        bn1 (f_X1_radius oC oB) fun x14 =>
        if x14 < (oB.1 3) then
          some ((-1))
        else
          if x14 ≤ (oB.1 4) then
            bn1 (f_X6_keyOf x4 x6 x14) fun x18 =>
            some (x18)
          else
            some ((-1))
      else
        some ((-1))
  else
    some ((-1))
def f_X6_circle (oB : St) (oC : St) (a1 : Int32) (a2 : Int32) (a3 : Int32) (a4 : Int32) : Option (Int32 × St) :=
  bn1 (f_X0_has oB a1) fun x1 =>
  if x1 = 0 then
    some ((-101), oC)
  else
    bn1 (f_X0_has oB a2) fun x4 =>
    if x4 = 0 then
      some ((-101), oC)
    else
      bn1 (f_X0_has oB a3) fun x7 =>
      if x7 = 0 then
        some ((-101), oC)
      else
        if a1 = a2 then
          some ((-101), oC)
        else
          if a1 = a3 then
            some ((-101), oC)
          else
            if a2 = a3 then
              some ((-101), oC)
            else
              if a4 < 0 then
                some ((-102), oC)
              else
                if a4 ≤ 4 then
                  bn1 (f_X1_lay oC oB a1 a2 a3) fun oC15 =>
                  bn1 (f_X1_isLine oC15) fun x17 =>
                  if x17 = 0 then
                    if a4 = 0 then
                      bn1 (f_X1_vote oC15 oB) fun x21 =>
                      if x21 = ((-1)) then
                        some (0, oC15)
                      else
                        some (1, oC15)
                    else
                      if a4 = 1 then
                        bn1 (f_X1_cellX oC15) fun x25 =>
                        some (x25, oC15)
                      else
                        if a4 = 2 then
                          bn1 (f_X1_cellY oC15) fun x28 =>
                          some (x28, oC15)
                        else
                          if a4 = 3 then
                            bn1 (f_X1_radius oC15 oB) fun x31 =>
                            some (x31, oC15)
                          else
                            bn1 (f_X1_agreeing oC15 oB) fun x33 =>
                            some (x33, oC15)
                  else
                    some ((-103), oC15)
                else
                  some ((-102), oC)
def f_X5_gatherBallot (oT : St) (oB : St) (oC : St) (a1 : Int32) (a2 : Int32) (a3 : Int32) : Option (St × St) :=
  bn1 (f_X1_lay oC oB a1 a2 a3) fun oC1 =>
  bn1 (f_X1_isLine oC1) fun x3 =>
  if x3 = 0 then
    bn1 (f_X1_vote oC1 oB) fun x6 =>
    if x6 = ((-1)) then
      some ((sI oT 6 ((oT.1 6) + 1)), oC1)
    else
      if 364 ≤ (oT.1 5) then
        some ((sI oT 6 ((oT.1 6) + 1)), oC1)
      else
        bn1 (aw 364 (sI oT 6 ((oT.1 6) + 1)) 7 (oT.1 5) x6) fun oT11 =>
        some ((sI oT11 5 ((oT11.1 5) + 1)), oC1)
  else
    some (oT, oC1)
def f_X5_gatherBallots_L42 (oB : St) (v1 : Int32) (v2 : Int32) (K : St → St → Option (St × St)) : Nat → Int32 → St → St → Option (St × St)
  | 0, _, _, _ => none
  | n + 1, v3, oT, oC =>
    if (oB.1 2) ≤ v3 then
      K oT oC
    else
      bn2 (f_X5_gatherBallot oT oB oC v1 v2 v3) fun oT4 oC5 =>
      f_X5_gatherBallots_L42 oB v1 v2 K n (v3 + 1) oT4 oC5
theorem f_X5_gatherBallots_L42_s (oB : St) (v1 : Int32) (v2 : Int32) (K : St → St → Option (St × St)) (n : Nat) (v3 : Int32) (oT : St) (oC : St) : f_X5_gatherBallots_L42 oB v1 v2 K (n + 1) v3 oT oC =
    if (oB.1 2) ≤ v3 then
      K oT oC
    else
      bn2 (f_X5_gatherBallot oT oB oC v1 v2 v3) fun oT4 oC5 =>
      f_X5_gatherBallots_L42 oB v1 v2 K n (v3 + 1) oT4 oC5 := rfl
def f_X5_gatherBallots_L27 (oB : St) (v1 : Int32) (K : St → St → Option (St × St)) : Nat → Int32 → St → St → Option (St × St)
  | 0, _, _, _ => none
  | n + 1, v2, oT, oC =>
    if (oB.1 2) ≤ v2 then
      K oT oC
    else
      f_X5_gatherBallots_L42 oB v1 v2 (fun (oT7 : St) (oC8 : St) =>
          f_X5_gatherBallots_L27 oB v1 K n (v2 + 1) oT7 oC8
        ) fu (v2 + 1) oT oC
theorem f_X5_gatherBallots_L27_s (oB : St) (v1 : Int32) (K : St → St → Option (St × St)) (n : Nat) (v2 : Int32) (oT : St) (oC : St) : f_X5_gatherBallots_L27 oB v1 K (n + 1) v2 oT oC =
    if (oB.1 2) ≤ v2 then
      K oT oC
    else
      f_X5_gatherBallots_L42 oB v1 v2 (fun (oT7 : St) (oC8 : St) =>
          f_X5_gatherBallots_L27 oB v1 K n (v2 + 1) oT7 oC8
        ) fu (v2 + 1) oT oC := rfl
def f_X5_gatherBallots_L12 (oB : St) : Nat → Int32 → St → St → Option (St × St)
  | 0, _, _, _ => none
  | n + 1, v1, oT, oC =>
    if (oB.1 2) ≤ v1 then
      some (oT, oC)
    else
      f_X5_gatherBallots_L27 oB v1 (fun (oT9 : St) (oC10 : St) =>
          f_X5_gatherBallots_L12 oB n (v1 + 1) oT9 oC10
        ) fu (v1 + 1) oT oC
theorem f_X5_gatherBallots_L12_s (oB : St) (n : Nat) (v1 : Int32) (oT : St) (oC : St) : f_X5_gatherBallots_L12 oB (n + 1) v1 oT oC =
    if (oB.1 2) ≤ v1 then
      some (oT, oC)
    else
      f_X5_gatherBallots_L27 oB v1 (fun (oT9 : St) (oC10 : St) =>
          f_X5_gatherBallots_L12 oB n (v1 + 1) oT9 oC10
        ) fu (v1 + 1) oT oC := rfl
def f_X5_gatherBallots (oT : St) (oB : St) (oC : St) : Option (St × St) :=
  f_X5_gatherBallots_L12 oB fu 0 ((sI (sI oT 5 0) 6 0)) oC
def f_X5_sortUp_L22 (v1 : Int32) (v2 : Int32) (v3 : Int32) (v4 : Int32) (K : Int32 → (Nat → Int32) → Option ((Nat → Int32))) : Nat → Int32 → (Nat → Int32) → Option ((Nat → Int32))
  | 0, _, _ => none
  | n + 1, v5, f =>
    if v5 < v2 then
      K v5 f
    else
      bn1 (ag 364 f (v5 - v2)) fun x6 =>
      if x6 ≤ v4 then
        K v5 f
      else
        bn1 (ag 364 f (v5 - v2)) fun x9 =>
        bn1 (au 364 f v5 x9) fun f12 =>
        f_X5_sortUp_L22 v1 v2 v3 v4 K n (v5 - v2) f12
theorem f_X5_sortUp_L22_s (v1 : Int32) (v2 : Int32) (v3 : Int32) (v4 : Int32) (K : Int32 → (Nat → Int32) → Option ((Nat → Int32))) (n : Nat) (v5 : Int32) (f : (Nat → Int32)) : f_X5_sortUp_L22 v1 v2 v3 v4 K (n + 1) v5 f =
    if v5 < v2 then
      K v5 f
    else
      bn1 (ag 364 f (v5 - v2)) fun x6 =>
      if x6 ≤ v4 then
        K v5 f
      else
        bn1 (ag 364 f (v5 - v2)) fun x9 =>
        bn1 (au 364 f v5 x9) fun f12 =>
        f_X5_sortUp_L22 v1 v2 v3 v4 K n (v5 - v2) f12 := rfl
def f_X5_sortUp_L9 (v1 : Int32) (v2 : Int32) (K : (Nat → Int32) → Option ((Nat → Int32))) : Nat → Int32 → (Nat → Int32) → Option ((Nat → Int32))
  | 0, _, _ => none
  | n + 1, v3, f =>
    if v1 ≤ v3 then
      K f
    else
      bn1 (ag 364 f v3) fun x3 =>
      f_X5_sortUp_L22 v1 v2 v3 x3 (fun (v13 : Int32) (f14 : (Nat → Int32)) =>
          bn1 (au 364 f14 v13 x3) fun f16 =>
          f_X5_sortUp_L9 v1 v2 K n (v3 + 1) f16
        ) fu v3 f
theorem f_X5_sortUp_L9_s (v1 : Int32) (v2 : Int32) (K : (Nat → Int32) → Option ((Nat → Int32))) (n : Nat) (v3 : Int32) (f : (Nat → Int32)) : f_X5_sortUp_L9 v1 v2 K (n + 1) v3 f =
    if v1 ≤ v3 then
      K f
    else
      bn1 (ag 364 f v3) fun x3 =>
      f_X5_sortUp_L22 v1 v2 v3 x3 (fun (v13 : Int32) (f14 : (Nat → Int32)) =>
          bn1 (au 364 f14 v13 x3) fun f16 =>
          f_X5_sortUp_L9 v1 v2 K n (v3 + 1) f16
        ) fu v3 f := rfl
def f_X5_sortUp_L3 (v1 : Int32) : Nat → Int32 → (Nat → Int32) → Option ((Nat → Int32))
  | 0, _, _ => none
  | n + 1, v2, f =>
    if v2 ≤ 0 then
      some (f)
    else
      f_X5_sortUp_L9 v1 v2 (fun (f17 : (Nat → Int32)) =>
          f_X5_sortUp_L3 v1 n (v2 / 3) f17
        ) fu v2 f
theorem f_X5_sortUp_L3_s (v1 : Int32) (n : Nat) (v2 : Int32) (f : (Nat → Int32)) : f_X5_sortUp_L3 v1 (n + 1) v2 f =
    if v2 ≤ 0 then
      some (f)
    else
      f_X5_sortUp_L9 v1 v2 (fun (f17 : (Nat → Int32)) =>
          f_X5_sortUp_L3 v1 n (v2 / 3) f17
        ) fu v2 f := rfl
def f_X5_sortUp (f : (Nat → Int32)) (a1 : Int32) : Option ((Nat → Int32)) :=
  f_X5_sortUp_L3 a1 fu 121 f
def f_X5_countBallots_L9 : Nat → Int32 → Int32 → St → Option (St)
  | 0, _, _, _ => none
  | n + 1, v1, v2, oT =>
    if (oT.1 5) ≤ v2 then
      some (oT)
    else
      if (v2 + 1) = (oT.1 5) then
        bn1 (ag 364 (oT.2.2 7) v2) fun x3 =>
        bn1 (aw 364 oT 8 (oT.1 4) (((364 - ((v2 + 1) - v1)) <<< ((15 : Int32) &&& 31)) ||| x3)) fun oT6 =>
        f_X5_countBallots_L9  n (v2 + 1) (v2 + 1) ((sI oT6 4 ((oT6.1 4) + 1)))
      else
        bn1 (ag 364 (oT.2.2 7) (v2 + 1)) fun x7 =>
        bn1 (ag 364 (oT.2.2 7) v2) fun x9 =>
        if x7 = x9 then
          f_X5_countBallots_L9  n v1 (v2 + 1) oT
        else
          bn1 (ag 364 (oT.2.2 7) v2) fun x12 =>
          bn1 (aw 364 oT 8 (oT.1 4) (((364 - ((v2 + 1) - v1)) <<< ((15 : Int32) &&& 31)) ||| x12)) fun oT15 =>
          f_X5_countBallots_L9  n (v2 + 1) (v2 + 1) ((sI oT15 4 ((oT15.1 4) + 1)))
theorem f_X5_countBallots_L9_s (n : Nat) (v1 : Int32) (v2 : Int32) (oT : St) : f_X5_countBallots_L9  (n + 1) v1 v2 oT =
    if (oT.1 5) ≤ v2 then
      some (oT)
    else
      if (v2 + 1) = (oT.1 5) then
        bn1 (ag 364 (oT.2.2 7) v2) fun x3 =>
        bn1 (aw 364 oT 8 (oT.1 4) (((364 - ((v2 + 1) - v1)) <<< ((15 : Int32) &&& 31)) ||| x3)) fun oT6 =>
        f_X5_countBallots_L9  n (v2 + 1) (v2 + 1) ((sI oT6 4 ((oT6.1 4) + 1)))
      else
        bn1 (ag 364 (oT.2.2 7) (v2 + 1)) fun x7 =>
        bn1 (ag 364 (oT.2.2 7) v2) fun x9 =>
        if x7 = x9 then
          f_X5_countBallots_L9  n v1 (v2 + 1) oT
        else
          bn1 (ag 364 (oT.2.2 7) v2) fun x12 =>
          bn1 (aw 364 oT 8 (oT.1 4) (((364 - ((v2 + 1) - v1)) <<< ((15 : Int32) &&& 31)) ||| x12)) fun oT15 =>
          f_X5_countBallots_L9  n (v2 + 1) (v2 + 1) ((sI oT15 4 ((oT15.1 4) + 1))) := rfl
def f_X5_countBallots (oT : St) : Option (St) :=
  f_X5_countBallots_L9 fu 0 0 ((sI oT 4 0))
def f_X5_keyAt (oT : St) (a1 : Int32) : Option (Int32) :=
  bn1 (ag 364 (oT.2.2 8) a1) fun x1 =>
  some (x1 &&& 32767)
def f_X6_keyX (a0 : Int32) : Option (Int32) :=
  some (a0 &&& 31)
def f_X6_keyY (a0 : Int32) : Option (Int32) :=
  some ((a0 >>> ((5 : Int32) &&& 31)) &&& 31)
def f_X6_keyRadius (a0 : Int32) : Option (Int32) :=
  some ((a0 >>> ((10 : Int32) &&& 31)) &&& 31)
def f_X4_from (oG : St) (a1 : Int32) : Option (St) :=
  bn1 (f_X6_keyX a1) fun x1 =>
  bn1 (f_X6_keyY a1) fun x3 =>
  bn1 (f_X6_keyRadius a1) fun x5 =>
  some ((sI (sI (sI oG 1 ((2 * x1) + 1)) 2 ((2 * x3) + 1)) 3 x5))
def f_X4_squared (oG : St) (oB : St) (a1 : Int32) : Option (Int32) :=
  bn1 (ag 14 (oB.2.2 8) a1) fun x1 =>
  bn1 (ag 14 (oB.2.2 9) a1) fun x3 =>
  some ((((2 * x1) - (oG.1 1)) * ((2 * x1) - (oG.1 1))) + (((2 * x3) - (oG.1 2)) * ((2 * x3) - (oG.1 2))))
def f_X4_isSupportedBy (oG : St) (oB : St) (a1 : Int32) : Option (Int32) :=
  bn1 (some (if 0 < ((2 * (oG.1 3)) - (oB.1 5)) then (2 * (oG.1 3)) - (oB.1 5) else 0)) fun y1 =>
  bn1 (some (((2 * (oG.1 3)) + 2) + (oB.1 5))) fun y3 =>
  bn1 (f_X4_squared oG oB a1) fun x5 =>
  if x5 < (y1 * y1) then
    some (0)
  else
    if (y3 * y3) < x5 then
      some (0)
    else
      bn1 (f_X0_agrees oB a1 (oG.1 1) (oG.1 2) 2) fun x9 =>
      if x9 = 0 then
        some (0)
      else
        some (1)
def f_X4_supporters_L4 (oG : St) (oB : St) : Nat → Int32 → Int32 → Option (Int32)
  | 0, _, _ => none
  | n + 1, v1, v2 =>
    if (oB.1 2) ≤ v2 then
      some (v1)
    else
      bn1 (f_X4_isSupportedBy oG oB v2) fun x2 =>
      if x2 = 0 then
        f_X4_supporters_L4 oG oB n v1 (v2 + 1)
      else
        bn1 (some (v1 ||| ((1 : Int32) <<< (v2 &&& 31)))) fun y5 =>
        f_X4_supporters_L4 oG oB n y5 (v2 + 1)
theorem f_X4_supporters_L4_s (oG : St) (oB : St) (n : Nat) (v1 : Int32) (v2 : Int32) : f_X4_supporters_L4 oG oB (n + 1) v1 v2 =
    if (oB.1 2) ≤ v2 then
      some (v1)
    else
      bn1 (f_X4_isSupportedBy oG oB v2) fun x2 =>
      if x2 = 0 then
        f_X4_supporters_L4 oG oB n v1 (v2 + 1)
      else
        bn1 (some (v1 ||| ((1 : Int32) <<< (v2 &&& 31)))) fun y5 =>
        f_X4_supporters_L4 oG oB n y5 (v2 + 1) := rfl
def f_X4_supporters (oG : St) (oB : St) : Option (Int32) :=
  f_X4_supporters_L4 oG oB fu 0 0
def f_X5_refresh_L40 (oB : St) (oC : St) : Nat → Int32 → St → St → Option (St × St × St)
  | 0, _, _, _ => none
  | n + 1, v1, oT, oG =>
    if (oT.1 4) ≤ v1 then
      some ((sI oT 3 1), oC, oG)
    else
      bn1 (f_X5_keyAt oT v1) fun x12 =>
      bn1 (f_X4_from oG x12) fun oG14 =>
      bn1 (f_X4_supporters oG14 oB) fun x16 =>
      bn1 (aw 364 oT 9 v1 x16) fun oT19 =>
      f_X5_refresh_L40 oB oC n (v1 + 1) oT19 oG14
theorem f_X5_refresh_L40_s (oB : St) (oC : St) (n : Nat) (v1 : Int32) (oT : St) (oG : St) : f_X5_refresh_L40 oB oC (n + 1) v1 oT oG =
    if (oT.1 4) ≤ v1 then
      some ((sI oT 3 1), oC, oG)
    else
      bn1 (f_X5_keyAt oT v1) fun x12 =>
      bn1 (f_X4_from oG x12) fun oG14 =>
      bn1 (f_X4_supporters oG14 oB) fun x16 =>
      bn1 (aw 364 oT 9 v1 x16) fun oT19 =>
      f_X5_refresh_L40 oB oC n (v1 + 1) oT19 oG14 := rfl
def f_X5_refresh (oT : St) (oB : St) (oC : St) (oG : St) : Option (St × St × St) :=
  if (oT.1 3) = 0 then
    bn2 (f_X5_gatherBallots oT oB oC) fun oT2 oC3 =>
    bn1 (f_X5_sortUp (oT2.2.2 7) (oT2.1 5)) fun f5 =>
    bn1 (f_X5_countBallots ((sR oT2 7 f5))) fun oT7 =>
    bn1 (f_X5_sortUp (oT7.2.2 8) (oT7.1 4)) fun f9 =>
    f_X5_refresh_L40 oB oC3 fu 0 ((sR oT7 8 f9)) oG
  else
    some (oT, oC, oG)
def f_X5_votesAt (oT : St) (a1 : Int32) : Option (Int32) :=
  bn1 (ag 364 (oT.2.2 8) a1) fun x1 =>
  some (364 - (x1 >>> ((15 : Int32) &&& 31)))
def f_X5_votesFor_L3 (oT : St) (v1 : Int32) (v2 : Int32) (v3 : Int32) : Nat → Int32 → Option (Int32)
  | 0, _ => none
  | n + 1, v4 =>
    if (oT.1 4) ≤ v4 then
      some (0)
    else
      bn1 (f_X5_keyAt oT v4) fun x2 =>
      bn1 (f_X6_keyX x2) fun x4 =>
      if x4 = v1 then
        bn1 (f_X6_keyY x2) fun x7 =>
        if x7 = v2 then
          bn1 (f_X6_keyRadius x2) fun x10 =>
          if x10 = v3 then
            bn1 (f_X5_votesAt oT v4) fun x13 =>
            some (x13)
          else
            f_X5_votesFor_L3 oT v1 v2 v3 n (v4 + 1)
        else
          f_X5_votesFor_L3 oT v1 v2 v3 n (v4 + 1)
      else
        f_X5_votesFor_L3 oT v1 v2 v3 n (v4 + 1)
theorem f_X5_votesFor_L3_s (oT : St) (v1 : Int32) (v2 : Int32) (v3 : Int32) (n : Nat) (v4 : Int32) : f_X5_votesFor_L3 oT v1 v2 v3 (n + 1) v4 =
    if (oT.1 4) ≤ v4 then
      some (0)
    else
      bn1 (f_X5_keyAt oT v4) fun x2 =>
      bn1 (f_X6_keyX x2) fun x4 =>
      if x4 = v1 then
        bn1 (f_X6_keyY x2) fun x7 =>
        if x7 = v2 then
          bn1 (f_X6_keyRadius x2) fun x10 =>
          if x10 = v3 then
            bn1 (f_X5_votesAt oT v4) fun x13 =>
            some (x13)
          else
            f_X5_votesFor_L3 oT v1 v2 v3 n (v4 + 1)
        else
          f_X5_votesFor_L3 oT v1 v2 v3 n (v4 + 1)
      else
        f_X5_votesFor_L3 oT v1 v2 v3 n (v4 + 1) := rfl
def f_X5_votesFor (oT : St) (a1 : Int32) (a2 : Int32) (a3 : Int32) : Option (Int32) :=
  f_X5_votesFor_L3 oT a1 a2 a3 fu 0
def f_X6_votes (oT : St) (oB : St) (oC : St) (oG : St) (a1 : Int32) (a2 : Int32) (a3 : Int32) : Option (Int32 × St × St × St) :=
  bn1 (f_X0_isThere oB) fun x1 =>
  if x1 = 0 then
    some ((-103), oT, oC, oG)
  else
    bn3 (f_X5_refresh oT oB oC oG) fun oT4 oC5 oG6 =>
    bn1 (f_X5_votesFor oT4 a1 a2 a3) fun x8 =>
    some (x8, oT4, oC5, oG6)
def f_J6_bitCount_0f7a4 (a0 : Int32) : Option (Int32) :=
  bn1 (some (a0 - (((a0.toUInt32 >>> ((1 : Int32).toUInt32 &&& Int32.toUInt32 31)).toInt32) &&& 1431655765))) fun y1 =>
  bn1 (some ((y1 &&& 858993459) + (((y1.toUInt32 >>> ((2 : Int32).toUInt32 &&& Int32.toUInt32 31)).toInt32) &&& 858993459))) fun y3 =>
  bn1 (some ((y3 + ((y3.toUInt32 >>> ((4 : Int32).toUInt32 &&& Int32.toUInt32 31)).toInt32)) &&& 252645135)) fun y5 =>
  bn1 (some (y5 + ((y5.toUInt32 >>> ((8 : Int32).toUInt32 &&& Int32.toUInt32 31)).toInt32))) fun y7 =>
  bn1 (some (y7 + ((y7.toUInt32 >>> ((16 : Int32).toUInt32 &&& Int32.toUInt32 31)).toInt32))) fun y9 =>
  some (y9 &&& 63)
def f_X4_octant (oG : St) (oB : St) (a1 : Int32) : Option (Int32) :=
  bn1 (ag 14 (oB.2.2 8) a1) fun x1 =>
  bn1 (ag 14 (oB.2.2 9) a1) fun x3 =>
  if ((2 * x3) - (oG.1 2)) ≤ 0 then
    if 0 ≤ ((2 * x1) - (oG.1 1)) then
      if (((2 * x3) - (oG.1 2)) * ((2 * x3) - (oG.1 2))) ≤ (((2 * x1) - (oG.1 1)) * ((2 * x1) - (oG.1 1))) then
        some (6)
      else
        some (6 + 1)
    else
      if (((2 * x3) - (oG.1 2)) * ((2 * x3) - (oG.1 2))) ≤ (((2 * x1) - (oG.1 1)) * ((2 * x1) - (oG.1 1))) then
        some (4)
      else
        some (4 + 1)
  else
    if ((2 * x1) - (oG.1 1)) ≤ 0 then
      if (((2 * x3) - (oG.1 2)) * ((2 * x3) - (oG.1 2))) ≤ (((2 * x1) - (oG.1 1)) * ((2 * x1) - (oG.1 1))) then
        some (2)
      else
        some (2 + 1)
    else
      if (((2 * x3) - (oG.1 2)) * ((2 * x3) - (oG.1 2))) ≤ (((2 * x1) - (oG.1 1)) * ((2 * x1) - (oG.1 1))) then
        some (0)
      else
        some (0 + 1)
def f_X4_span_L4 (oG : St) (oB : St) (v1 : Int32) : Nat → Int32 → Int32 → Option (Int32)
  | 0, _, _ => none
  | n + 1, v2, v3 =>
    if (oB.1 2) ≤ v3 then
      bn1 (f_J6_bitCount_0f7a4 v2) fun x2 =>
      some (x2)
    else
      if ((v1 >>> (v3 &&& 31)) &&& 1) = 1 then
        bn1 (f_X4_octant oG oB v3) fun x5 =>
        bn1 (some (v2 ||| ((1 : Int32) <<< (x5 &&& 31)))) fun y7 =>
        f_X4_span_L4 oG oB v1 n y7 (v3 + 1)
      else
        f_X4_span_L4 oG oB v1 n v2 (v3 + 1)
theorem f_X4_span_L4_s (oG : St) (oB : St) (v1 : Int32) (n : Nat) (v2 : Int32) (v3 : Int32) : f_X4_span_L4 oG oB v1 (n + 1) v2 v3 =
    if (oB.1 2) ≤ v3 then
      bn1 (f_J6_bitCount_0f7a4 v2) fun x2 =>
      some (x2)
    else
      if ((v1 >>> (v3 &&& 31)) &&& 1) = 1 then
        bn1 (f_X4_octant oG oB v3) fun x5 =>
        bn1 (some (v2 ||| ((1 : Int32) <<< (x5 &&& 31)))) fun y7 =>
        f_X4_span_L4 oG oB v1 n y7 (v3 + 1)
      else
        f_X4_span_L4 oG oB v1 n v2 (v3 + 1) := rfl
def f_X4_span (oG : St) (oB : St) (a1 : Int32) : Option (Int32) :=
  f_X4_span_L4 oG oB a1 fu 0 0
def f_X5_tell (oT : St) (oB : St) (oG : St) (a1 : Int32) (a2 : Int32) : Option (Int32 × St) :=
  bn1 (f_X5_keyAt oT a1) fun x1 =>
  if a2 = 0 then
    bn1 (f_X6_keyX x1) fun x4 =>
    some (x4, oG)
  else
    if a2 = 1 then
      bn1 (f_X6_keyY x1) fun x7 =>
      some (x7, oG)
    else
      if a2 = 2 then
        bn1 (f_X6_keyRadius x1) fun x10 =>
        some (x10, oG)
      else
        if a2 = 3 then
          bn1 (f_X5_votesAt oT a1) fun x13 =>
          some (x13, oG)
        else
          if a2 = 4 then
            bn1 (ag 364 (oT.2.2 9) a1) fun x16 =>
            bn1 (f_J6_bitCount_0f7a4 x16) fun x18 =>
            some (x18, oG)
          else
            if a2 = 5 then
              bn1 (f_X4_from oG x1) fun oG21 =>
              bn1 (ag 364 (oT.2.2 9) a1) fun x23 =>
              bn1 (f_X4_span oG21 oB x23) fun x25 =>
              some (x25, oG21)
            else
              if a2 = 6 then
                bn1 (ag 364 (oT.2.2 9) a1) fun x28 =>
                some (x28, oG)
              else
                some ((-102), oG)
def f_X6_spot (oT : St) (oB : St) (oC : St) (oG : St) (a1 : Int32) (a2 : Int32) : Option (Int32 × St × St × St) :=
  bn3 (f_X5_refresh oT oB oC oG) fun oT1 oC2 oG3 =>
  if a1 < 0 then
    some ((-101), oT1, oC2, oG3)
  else
    if a1 < (oT1.1 4) then
      bn2 (f_X5_tell oT1 oB oG3 a1 a2) fun x7 oG8 =>
      some (x7, oT1, oC2, oG8)
    else
      some ((-101), oT1, oC2, oG3)
def f_X5_foremost_L2 (oT : St) : Nat → Int32 → Option (Int32)
  | 0, _ => none
  | n + 1, v1 =>
    if (oT.1 4) ≤ v1 then
      some (v1)
    else
      bn1 (f_X5_votesAt oT v1) fun x2 =>
      bn1 (f_X5_votesAt oT 0) fun x4 =>
      if x2 = x4 then
        f_X5_foremost_L2 oT n (v1 + 1)
      else
        some (v1)
theorem f_X5_foremost_L2_s (oT : St) (n : Nat) (v1 : Int32) : f_X5_foremost_L2 oT (n + 1) v1 =
    if (oT.1 4) ≤ v1 then
      some (v1)
    else
      bn1 (f_X5_votesAt oT v1) fun x2 =>
      bn1 (f_X5_votesAt oT 0) fun x4 =>
      if x2 = x4 then
        f_X5_foremost_L2 oT n (v1 + 1)
      else
        some (v1) := rfl
def f_X5_foremost (oT : St) : Option (Int32) :=
  f_X5_foremost_L2 oT fu 0
def f_X5_total (oT : St) (a1 : Int32) : Option (Int32) :=
  if a1 = 0 then
    some (oT.1 4)
  else
    if a1 = 1 then
      some (oT.1 5)
    else
      if a1 = 2 then
        some (oT.1 6)
      else
        if a1 = 3 then
          bn1 (f_X5_foremost oT) fun x5 =>
          some (x5)
        else
          some ((-102))
def f_X6_spots (oT : St) (oB : St) (oC : St) (oG : St) (a1 : Int32) : Option (Int32 × St × St × St) :=
  if a1 < 0 then
    some ((-102), oT, oC, oG)
  else
    if a1 ≤ 3 then
      bn1 (f_X0_isThere oB) fun x3 =>
      if x3 = 0 then
        some ((-103), oT, oC, oG)
      else
        bn3 (f_X5_refresh oT oB oC oG) fun oT6 oC7 oG8 =>
        bn1 (f_X5_total oT6 a1) fun x10 =>
        some (x10, oT6, oC7, oG8)
    else
      some ((-102), oT, oC, oG)
def f_X3_worthOf (oB : St) (oG : St) (a1 : Int32) (a2 : Int32) : Option (Int32 × St) :=
  bn1 (f_J6_bitCount_0f7a4 a2) fun x1 =>
  if (oB.1 6) ≤ x1 then
    bn1 (f_X4_from oG a1) fun oG4 =>
    bn1 (f_X4_span oG4 oB a2) fun x6 =>
    if (oB.1 7) ≤ x6 then
      some (x1 * x6, oG4)
    else
      some (0, oG4)
  else
    some (0, oG)
def f_X3_bestPlace_L7 (oT : St) (oB : St) (v1 : Int32) : Nat → Int32 → Int32 → Int32 → St → Option (Int32 × St)
  | 0, _, _, _, _ => none
  | n + 1, v2, v3, v4, oG =>
    if (oT.1 4) ≤ v4 then
      some (v2, oG)
    else
      bn1 (f_X5_keyAt oT v4) fun x2 =>
      bn1 (ag 364 (oT.2.2 9) v4) fun x4 =>
      bn2 (f_X3_worthOf oB oG x2 (x4 &&& v1)) fun x6 oG7 =>
      if x6 ≤ v3 then
        f_X3_bestPlace_L7 oT oB v1 n v2 v3 (v4 + 1) oG7
      else
        f_X3_bestPlace_L7 oT oB v1 n v4 x6 (v4 + 1) oG7
theorem f_X3_bestPlace_L7_s (oT : St) (oB : St) (v1 : Int32) (n : Nat) (v2 : Int32) (v3 : Int32) (v4 : Int32) (oG : St) : f_X3_bestPlace_L7 oT oB v1 (n + 1) v2 v3 v4 oG =
    if (oT.1 4) ≤ v4 then
      some (v2, oG)
    else
      bn1 (f_X5_keyAt oT v4) fun x2 =>
      bn1 (ag 364 (oT.2.2 9) v4) fun x4 =>
      bn2 (f_X3_worthOf oB oG x2 (x4 &&& v1)) fun x6 oG7 =>
      if x6 ≤ v3 then
        f_X3_bestPlace_L7 oT oB v1 n v2 v3 (v4 + 1) oG7
      else
        f_X3_bestPlace_L7 oT oB v1 n v4 x6 (v4 + 1) oG7 := rfl
def f_X3_bestPlace (oT : St) (oB : St) (oG : St) (a1 : Int32) : Option (Int32 × St) :=
  f_X3_bestPlace_L7 oT oB a1 fu ((-1)) 0 0 oG
def f_X3_keepBest_L22 (oT : St) (oB : St) : Nat → Int32 → St → St → Option (St × St)
  | 0, _, _, _ => none
  | n + 1, v1, oR, oG =>
    if 7 ≤ (oR.1 4) then
      some (oR, oG)
    else
      bn2 (f_X3_bestPlace oT oB oG v1) fun x4 oG5 =>
      if x4 = ((-1)) then
        some (oR, oG5)
      else
        bn1 (f_X5_keyAt oT x4) fun x8 =>
        bn1 (aw 7 oR 5 (oR.1 4) x8) fun oR11 =>
        bn1 (ag 364 (oT.2.2 9) x4) fun x12 =>
        bn1 (aw 7 oR11 6 (oR11.1 4) (x12 &&& v1)) fun oR15 =>
        bn1 (ag 7 (oR15.2.2 6) (oR15.1 4)) fun x16 =>
        f_X3_keepBest_L22 oT oB n (v1 &&& (x16 ^^^ ((-1)))) ((sI oR15 4 ((oR15.1 4) + 1))) oG5
theorem f_X3_keepBest_L22_s (oT : St) (oB : St) (n : Nat) (v1 : Int32) (oR : St) (oG : St) : f_X3_keepBest_L22 oT oB (n + 1) v1 oR oG =
    if 7 ≤ (oR.1 4) then
      some (oR, oG)
    else
      bn2 (f_X3_bestPlace oT oB oG v1) fun x4 oG5 =>
      if x4 = ((-1)) then
        some (oR, oG5)
      else
        bn1 (f_X5_keyAt oT x4) fun x8 =>
        bn1 (aw 7 oR 5 (oR.1 4) x8) fun oR11 =>
        bn1 (ag 364 (oT.2.2 9) x4) fun x12 =>
        bn1 (aw 7 oR11 6 (oR11.1 4) (x12 &&& v1)) fun oR15 =>
        bn1 (ag 7 (oR15.2.2 6) (oR15.1 4)) fun x16 =>
        f_X3_keepBest_L22 oT oB n (v1 &&& (x16 ^^^ ((-1)))) ((sI oR15 4 ((oR15.1 4) + 1))) oG5 := rfl
def f_X3_keepBest (oR : St) (oT : St) (oB : St) (oG : St) : Option (St × St) :=
  bn1 (some (((1 : Int32) <<< ((oB.1 2) &&& 31)) - 1)) fun y1 =>
  f_X3_keepBest_L22 oT oB fu y1 ((sI (sI oR 3 1) 4 0)) oG
def f_X6_hunt (oX : St) (oR : St) (oT : St) (oB : St) (oC : St) (oG : St) : Option (Int32 × St × St × St × St × St) :=
  bn1 (f_X0_isThere oB) fun x1 =>
  if x1 = 0 then
    some ((-103), oX, oR, oT, oC, oG)
  else
    bn3 (f_X5_refresh oT oB oC oG) fun oT4 oC5 oG6 =>
    bn2 (f_X3_keepBest oR oT4 oB oG6) fun oR8 oG9 =>
    some (oR8.1 4, (sI oX 7 ((oX.1 7) + 1)), oR8, oT4, oC5, oG9)
def f_X4_farness (oG : St) (oB : St) (a1 : Int32) : Option (Int32) :=
  bn1 (f_X4_squared oG oB a1) fun x1 =>
  some (if (0 : Int32) ≤ (x1 - (((2 * (oG.1 3)) + 1) * ((2 * (oG.1 3)) + 1))) then x1 - (((2 * (oG.1 3)) + 1) * ((2 * (oG.1 3)) + 1)) else 0 - (x1 - (((2 * (oG.1 3)) + 1) * ((2 * (oG.1 3)) + 1))))
def f_X3_nearestRing_L7 (oR : St) (oB : St) (v1 : Int32) : Nat → Int32 → Int32 → Int32 → St → Option (Int32 × St)
  | 0, _, _, _, _ => none
  | n + 1, v2, v3, v4, oG =>
    if (oR.1 4) ≤ v4 then
      some (v2, oG)
    else
      bn1 (ag 7 (oR.2.2 5) v4) fun x2 =>
      bn1 (f_X4_from oG x2) fun oG4 =>
      bn1 (f_X4_isSupportedBy oG4 oB v1) fun x6 =>
      if x6 = 0 then
        f_X3_nearestRing_L7 oR oB v1 n v2 v3 (v4 + 1) oG4
      else
        if v2 = ((-1)) then
          bn1 (f_X4_farness oG4 oB v1) fun x10 =>
          f_X3_nearestRing_L7 oR oB v1 n v4 x10 (v4 + 1) oG4
        else
          bn1 (f_X4_farness oG4 oB v1) fun x12 =>
          if v3 ≤ x12 then
            f_X3_nearestRing_L7 oR oB v1 n v2 v3 (v4 + 1) oG4
          else
            bn1 (f_X4_farness oG4 oB v1) fun x15 =>
            f_X3_nearestRing_L7 oR oB v1 n v4 x15 (v4 + 1) oG4
theorem f_X3_nearestRing_L7_s (oR : St) (oB : St) (v1 : Int32) (n : Nat) (v2 : Int32) (v3 : Int32) (v4 : Int32) (oG : St) : f_X3_nearestRing_L7 oR oB v1 (n + 1) v2 v3 v4 oG =
    if (oR.1 4) ≤ v4 then
      some (v2, oG)
    else
      bn1 (ag 7 (oR.2.2 5) v4) fun x2 =>
      bn1 (f_X4_from oG x2) fun oG4 =>
      bn1 (f_X4_isSupportedBy oG4 oB v1) fun x6 =>
      if x6 = 0 then
        f_X3_nearestRing_L7 oR oB v1 n v2 v3 (v4 + 1) oG4
      else
        if v2 = ((-1)) then
          bn1 (f_X4_farness oG4 oB v1) fun x10 =>
          f_X3_nearestRing_L7 oR oB v1 n v4 x10 (v4 + 1) oG4
        else
          bn1 (f_X4_farness oG4 oB v1) fun x12 =>
          if v3 ≤ x12 then
            f_X3_nearestRing_L7 oR oB v1 n v2 v3 (v4 + 1) oG4
          else
            bn1 (f_X4_farness oG4 oB v1) fun x15 =>
            f_X3_nearestRing_L7 oR oB v1 n v4 x15 (v4 + 1) oG4 := rfl
def f_X3_nearestRing (oR : St) (oB : St) (oG : St) (a1 : Int32) : Option (Int32 × St) :=
  f_X3_nearestRing_L7 oR oB a1 fu ((-1)) 0 0 oG
def f_X3_has (oR : St) (a1 : Int32) : Option (Int32) :=
  if a1 < 0 then
    some (0)
  else
    if (oR.1 4) ≤ a1 then
      some (0)
    else
      some (1)
def f_X3_tellOff_L2 (K : St → Option (St × St)) : Nat → Int32 → St → Option (St × St)
  | 0, _, _ => none
  | n + 1, v1, oR =>
    if (oR.1 4) ≤ v1 then
      K oR
    else
      bn1 (aw 7 oR 6 v1 0) fun oR3 =>
      f_X3_tellOff_L2 K n (v1 + 1) oR3
theorem f_X3_tellOff_L2_s (K : St → Option (St × St)) (n : Nat) (v1 : Int32) (oR : St) : f_X3_tellOff_L2 K (n + 1) v1 oR =
    if (oR.1 4) ≤ v1 then
      K oR
    else
      bn1 (aw 7 oR 6 v1 0) fun oR3 =>
      f_X3_tellOff_L2 K n (v1 + 1) oR3 := rfl
def f_X3_tellOff_L25 (oB : St) : Nat → Int32 → St → St → Option (St × St)
  | 0, _, _, _ => none
  | n + 1, v1, oR, oG =>
    if (oB.1 2) ≤ v1 then
      some (oR, oG)
    else
      bn2 (f_X3_nearestRing oR oB oG v1) fun x6 oG7 =>
      bn1 (f_X3_has oR x6) fun x9 =>
      if x9 = 0 then
        f_X3_tellOff_L25 oB n (v1 + 1) oR oG7
      else
        bn1 (ag 7 (oR.2.2 6) x6) fun x12 =>
        bn1 (aw 7 oR 6 x6 (x12 ||| ((1 : Int32) <<< (v1 &&& 31)))) fun oR15 =>
        f_X3_tellOff_L25 oB n (v1 + 1) oR15 oG7
theorem f_X3_tellOff_L25_s (oB : St) (n : Nat) (v1 : Int32) (oR : St) (oG : St) : f_X3_tellOff_L25 oB (n + 1) v1 oR oG =
    if (oB.1 2) ≤ v1 then
      some (oR, oG)
    else
      bn2 (f_X3_nearestRing oR oB oG v1) fun x6 oG7 =>
      bn1 (f_X3_has oR x6) fun x9 =>
      if x9 = 0 then
        f_X3_tellOff_L25 oB n (v1 + 1) oR oG7
      else
        bn1 (ag 7 (oR.2.2 6) x6) fun x12 =>
        bn1 (aw 7 oR 6 x6 (x12 ||| ((1 : Int32) <<< (v1 &&& 31)))) fun oR15 =>
        f_X3_tellOff_L25 oB n (v1 + 1) oR15 oG7 := rfl
def f_X3_tellOff (oR : St) (oB : St) (oG : St) : Option (St × St) :=
  f_X3_tellOff_L2  (fun (oR4 : St) =>
      f_X3_tellOff_L25 oB fu 0 oR4 oG
    ) fu 0 oR
def f_X3_ownCount (oR : St) (a1 : Int32) : Option (Int32) :=
  bn1 (ag 7 (oR.2.2 6) a1) fun x1 =>
  bn1 (f_J6_bitCount_0f7a4 x1) fun x3 =>
  some (x3)
def f_X3_weakest_L14 (oR : St) : Nat → Int32 → Int32 → Int32 → Option (Int32)
  | 0, _, _, _ => none
  | n + 1, v1, v2, v3 =>
    if (oR.1 4) ≤ v3 then
      some (v1)
    else
      bn1 (f_X3_ownCount oR v3) fun x2 =>
      if v2 < x2 then
        f_X3_weakest_L14 oR n v1 v2 (v3 + 1)
      else
        bn1 (f_X3_ownCount oR v3) fun x5 =>
        f_X3_weakest_L14 oR n v3 x5 (v3 + 1)
theorem f_X3_weakest_L14_s (oR : St) (n : Nat) (v1 : Int32) (v2 : Int32) (v3 : Int32) : f_X3_weakest_L14 oR (n + 1) v1 v2 v3 =
    if (oR.1 4) ≤ v3 then
      some (v1)
    else
      bn1 (f_X3_ownCount oR v3) fun x2 =>
      if v2 < x2 then
        f_X3_weakest_L14 oR n v1 v2 (v3 + 1)
      else
        bn1 (f_X3_ownCount oR v3) fun x5 =>
        f_X3_weakest_L14 oR n v3 x5 (v3 + 1) := rfl
def f_X3_weakest (oR : St) (oB : St) : Option (Int32) :=
  f_X3_weakest_L14 oR fu ((-1)) ((oB.1 6) - 1) 0
def f_X3_giveUp_L11 (K : St → Option (St)) : Nat → Int32 → St → Option (St)
  | 0, _, _ => none
  | n + 1, v2, oR =>
    if (oR.1 4) ≤ (v2 + 1) then
      K oR
    else
      bn1 (ag 7 (oR.2.2 5) (v2 + 1)) fun x5 =>
      bn1 (aw 7 oR 5 v2 x5) fun oR8 =>
      f_X3_giveUp_L11 K n (v2 + 1) oR8
theorem f_X3_giveUp_L11_s (K : St → Option (St)) (n : Nat) (v2 : Int32) (oR : St) : f_X3_giveUp_L11 K (n + 1) v2 oR =
    if (oR.1 4) ≤ (v2 + 1) then
      K oR
    else
      bn1 (ag 7 (oR.2.2 5) (v2 + 1)) fun x5 =>
      bn1 (aw 7 oR 5 v2 x5) fun oR8 =>
      f_X3_giveUp_L11 K n (v2 + 1) oR8 := rfl
def f_X3_giveUp (oR : St) (a1 : Int32) : Option (St) :=
  bn1 (f_X3_has oR a1) fun x1 =>
  if x1 = 0 then
    some (oR)
  else
    f_X3_giveUp_L11  (fun (oR9 : St) =>
        some ((sI oR9 4 ((oR9.1 4) - 1)))
      ) fu a1 oR
def f_X3_tellOffAnew_L2 (oB : St) : Nat → Int32 → St → St → Option (St × St)
  | 0, _, _, _ => none
  | n + 1, v1, oR, oG =>
    if 7 < v1 then
      some (oR, oG)
    else
      bn2 (f_X3_tellOff oR oB oG) fun oR2 oG3 =>
      bn1 (f_X3_weakest oR2 oB) fun x5 =>
      if x5 = ((-1)) then
        some (oR2, oG3)
      else
        bn1 (f_X3_giveUp oR2 x5) fun oR8 =>
        f_X3_tellOffAnew_L2 oB n (v1 + 1) oR8 oG3
theorem f_X3_tellOffAnew_L2_s (oB : St) (n : Nat) (v1 : Int32) (oR : St) (oG : St) : f_X3_tellOffAnew_L2 oB (n + 1) v1 oR oG =
    if 7 < v1 then
      some (oR, oG)
    else
      bn2 (f_X3_tellOff oR oB oG) fun oR2 oG3 =>
      bn1 (f_X3_weakest oR2 oB) fun x5 =>
      if x5 = ((-1)) then
        some (oR2, oG3)
      else
        bn1 (f_X3_giveUp oR2 x5) fun oR8 =>
        f_X3_tellOffAnew_L2 oB n (v1 + 1) oR8 oG3 := rfl
def f_X3_tellOffAnew (oR : St) (oB : St) (oG : St) : Option (St × St) :=
  f_X3_tellOffAnew_L2 oB fu 0 oR oG
def f_X6_split (oX : St) (oR : St) (oB : St) (oG : St) : Option (Int32 × St × St × St) :=
  if (oR.1 3) = 0 then
    some ((-103), oX, oR, oG)
  else
    bn2 (f_X3_tellOffAnew oR oB oG) fun oR2 oG3 =>
    bn1 (some ((oX.1 8) + ((oR.1 4) - (oR2.1 4)))) fun y5 =>
    some (oR2.1 4, (sI oX 8 y5), oR2, oG3)
def f_X3_spanOf (oR : St) (oB : St) (oG : St) (a1 : Int32) : Option (Int32 × St) :=
  bn1 (ag 7 (oR.2.2 5) a1) fun x1 =>
  bn1 (f_X4_from oG x1) fun oG3 =>
  bn1 (ag 7 (oR.2.2 6) a1) fun x5 =>
  bn1 (f_X4_span oG3 oB x5) fun x7 =>
  some (x7, oG3)
def f_X3_kindOf (oR : St) (oB : St) (oG : St) (a1 : Int32) : Option (Int32 × St) :=
  bn2 (f_X3_spanOf oR oB oG a1) fun x1 oG2 =>
  if x1 = 8 then
    some (0, oG2)
  else
    some (1, oG2)
def f_X3_tell (oR : St) (oB : St) (oG : St) (a1 : Int32) (a2 : Int32) : Option (Int32 × St) :=
  if a2 = 0 then
    bn1 (ag 7 (oR.2.2 5) a1) fun x2 =>
    bn1 (f_X6_keyX x2) fun x4 =>
    some (x4, oG)
  else
    if a2 = 1 then
      bn1 (ag 7 (oR.2.2 5) a1) fun x7 =>
      bn1 (f_X6_keyY x7) fun x9 =>
      some (x9, oG)
    else
      if a2 = 2 then
        bn1 (ag 7 (oR.2.2 5) a1) fun x12 =>
        bn1 (f_X6_keyRadius x12) fun x14 =>
        some (x14, oG)
      else
        if a2 = 3 then
          bn1 (f_X3_ownCount oR a1) fun x17 =>
          some (x17, oG)
        else
          if a2 = 4 then
            bn1 (ag 7 (oR.2.2 6) a1) fun x20 =>
            some (x20, oG)
          else
            if a2 = 5 then
              bn2 (f_X3_spanOf oR oB oG a1) fun x23 oG24 =>
              some (x23, oG24)
            else
              if a2 = 6 then
                bn2 (f_X3_kindOf oR oB oG a1) fun x27 oG28 =>
                some (x27, oG28)
              else
                some ((-102), oG)
def f_X6_ring (oR : St) (oB : St) (oG : St) (a1 : Int32) (a2 : Int32) : Option (Int32 × St) :=
  bn1 (f_X3_has oR a1) fun x1 =>
  if x1 = 0 then
    some ((-101), oG)
  else
    bn2 (f_X3_tell oR oB oG a1 a2) fun x4 oG5 =>
    some (x4, oG5)
def f_X6_as (oR : St) (oB : St) (oG : St) (a1 : Int32) (a2 : Int32) : Option (Int32 × St) :=
  bn1 (f_X3_has oR a1) fun x1 =>
  if x1 = 0 then
    some ((-101), oG)
  else
    if a2 < 0 then
      some ((-102), oG)
    else
      if a2 ≤ 1 then
        bn2 (f_X3_kindOf oR oB oG a1) fun x6 oG7 =>
        if x6 = a2 then
          some (a1, oG7)
        else
          some ((-1), oG7)
      else
        some ((-102), oG)
def f_X3_areCrossing (oR : St) (a1 : Int32) (a2 : Int32) : Option (Int32) :=
  bn1 (ag 7 (oR.2.2 5) a1) fun x1 =>
  bn1 (f_X6_keyX x1) fun x3 =>
  bn1 (ag 7 (oR.2.2 5) a2) fun x5 =>
  bn1 (f_X6_keyX x5) fun x7 =>
  bn1 (ag 7 (oR.2.2 5) a1) fun x9 =>
  bn1 (f_X6_keyY x9) fun x11 =>
  bn1 (ag 7 (oR.2.2 5) a2) fun x13 =>
  bn1 (f_X6_keyY x13) fun x15 =>
  bn1 (ag 7 (oR.2.2 5) a1) fun x17 =>
  bn1 (f_X6_keyRadius x17) fun x19 =>
  bn1 (ag 7 (oR.2.2 5) a2) fun x21 =>
  bn1 (f_X6_keyRadius x21) fun x23 =>
  bn1 (ag 7 (oR.2.2 5) a1) fun x25 =>
  bn1 (f_X6_keyRadius x25) fun x27 =>
  bn1 (ag 7 (oR.2.2 5) a2) fun x29 =>
  bn1 (f_X6_keyRadius x29) fun x31 =>
  bn1 (some (((x3 - x7) * (x3 - x7)) + ((x11 - x15) * (x11 - x15)))) fun y33 =>
  if (((x19 + x23) + 1) * ((x19 + x23) + 1)) < y33 then
    some (0)
  else
    if y33 < ((x27 - x31) * (x27 - x31)) then
      some (0)
    else
      some (1)
def f_X6_cross (oR : St) (a1 : Int32) (a2 : Int32) : Option (Int32) :=
  bn1 (f_X3_has oR a1) fun x1 =>
  if x1 = 0 then
    some ((-101))
  else
    bn1 (f_X3_has oR a2) fun x4 =>
    if x4 = 0 then
      some ((-101))
    else
      if a1 = a2 then
        some ((-101))
      else
        bn1 (f_X3_areCrossing oR a1 a2) fun x8 =>
        if x8 = 0 then
          some (0)
        else
          some (1)
def f_X3_ownedDots_L4 (oR : St) : Nat → Int32 → Int32 → Option (Int32)
  | 0, _, _ => none
  | n + 1, v1, v2 =>
    if (oR.1 4) ≤ v2 then
      some (v1)
    else
      bn1 (f_X3_ownCount oR v2) fun x2 =>
      f_X3_ownedDots_L4 oR n (v1 + x2) (v2 + 1)
theorem f_X3_ownedDots_L4_s (oR : St) (n : Nat) (v1 : Int32) (v2 : Int32) : f_X3_ownedDots_L4 oR (n + 1) v1 v2 =
    if (oR.1 4) ≤ v2 then
      some (v1)
    else
      bn1 (f_X3_ownCount oR v2) fun x2 =>
      f_X3_ownedDots_L4 oR n (v1 + x2) (v2 + 1) := rfl
def f_X3_ownedDots (oR : St) : Option (Int32) :=
  f_X3_ownedDots_L4 oR fu 0 0
def f_X6_count (oX : St) (oP : St) (oR : St) (oB : St) (a1 : Int32) : Option (Int32) :=
  if a1 = 0 then
    some (oB.1 2)
  else
    if a1 = 1 then
      some (oR.1 4)
    else
      if a1 = 2 then
        bn1 (f_X3_ownedDots oR) fun x4 =>
        some (x4)
      else
        if a1 = 3 then
          some (oP.1 1)
        else
          if a1 = 4 then
            some (oX.1 6)
          else
            if a1 = 5 then
              some (oX.1 7)
            else
              if a1 = 6 then
                some (oX.1 8)
              else
                some ((-102))
def f_X6_withDots_L5 (oB : St) (K : Int64 → Option (Int64)) : Nat → Int64 → Int32 → Option (Int64)
  | 0, _, _ => none
  | n + 1, v3, v5 =>
    if 7 < v5 then
      K v3
    else
      bn1 (f_X6_about oB v5) fun x2 =>
      bn1 (some ((31 * v3) + ((x2 : Int32).toInt64))) fun y4 =>
      f_X6_withDots_L5 oB K n y4 (v5 + 1)
theorem f_X6_withDots_L5_s (oB : St) (K : Int64 → Option (Int64)) (n : Nat) (v3 : Int64) (v5 : Int32) : f_X6_withDots_L5 oB K (n + 1) v3 v5 =
    if 7 < v5 then
      K v3
    else
      bn1 (f_X6_about oB v5) fun x2 =>
      bn1 (some ((31 * v3) + ((x2 : Int32).toInt64))) fun y4 =>
      f_X6_withDots_L5 oB K n y4 (v5 + 1) := rfl
def f_X6_withDots_L50 (oR : St) (oB : St) (v5 : Int32) (K : Int64 → Option (Int64)) : Nat → Int64 → Int32 → Option (Int64)
  | 0, _, _ => none
  | n + 1, v3, v6 =>
    if 3 < v6 then
      K v3
    else
      bn1 (f_X6_told oR oB v5 v6) fun x9 =>
      bn1 (some ((31 * v3) + ((x9 : Int32).toInt64))) fun y11 =>
      f_X6_withDots_L50 oR oB v5 K n y11 (v6 + 1)
theorem f_X6_withDots_L50_s (oR : St) (oB : St) (v5 : Int32) (K : Int64 → Option (Int64)) (n : Nat) (v3 : Int64) (v6 : Int32) : f_X6_withDots_L50 oR oB v5 K (n + 1) v3 v6 =
    if 3 < v6 then
      K v3
    else
      bn1 (f_X6_told oR oB v5 v6) fun x9 =>
      bn1 (some ((31 * v3) + ((x9 : Int32).toInt64))) fun y11 =>
      f_X6_withDots_L50 oR oB v5 K n y11 (v6 + 1) := rfl
def f_X6_withDots_L35 (oR : St) (oB : St) : Nat → Int64 → Int32 → Option (Int64)
  | 0, _, _ => none
  | n + 1, v3, v5 =>
    if (oB.1 2) ≤ v5 then
      some (v3)
    else
      f_X6_withDots_L50 oR oB v5 (fun (v13 : Int64) =>
          f_X6_withDots_L35 oR oB n v13 (v5 + 1)
        ) fu v3 0
theorem f_X6_withDots_L35_s (oR : St) (oB : St) (n : Nat) (v3 : Int64) (v5 : Int32) : f_X6_withDots_L35 oR oB (n + 1) v3 v5 =
    if (oB.1 2) ≤ v5 then
      some (v3)
    else
      f_X6_withDots_L50 oR oB v5 (fun (v13 : Int64) =>
          f_X6_withDots_L35 oR oB n v13 (v5 + 1)
        ) fu v3 0 := rfl
def f_X6_withDots (oR : St) (oB : St) (a1 : Int64) : Option (Int64) :=
  f_X6_withDots_L5 oB (fun (v6 : Int64) =>
      f_X6_withDots_L35 oR oB fu v6 0
    ) fu a1 0
def f_X6_withSpots_L5 (oT : St) (K : Int64 → Option (Int64 × St)) : Nat → Int64 → Int32 → Option (Int64 × St)
  | 0, _, _ => none
  | n + 1, v3, v5 =>
    if 3 < v5 then
      K v3
    else
      bn1 (f_X5_total oT v5) fun x2 =>
      bn1 (some ((31 * v3) + ((x2 : Int32).toInt64))) fun y4 =>
      f_X6_withSpots_L5 oT K n y4 (v5 + 1)
theorem f_X6_withSpots_L5_s (oT : St) (K : Int64 → Option (Int64 × St)) (n : Nat) (v3 : Int64) (v5 : Int32) : f_X6_withSpots_L5 oT K (n + 1) v3 v5 =
    if 3 < v5 then
      K v3
    else
      bn1 (f_X5_total oT v5) fun x2 =>
      bn1 (some ((31 * v3) + ((x2 : Int32).toInt64))) fun y4 =>
      f_X6_withSpots_L5 oT K n y4 (v5 + 1) := rfl
def f_X6_withSpots_L52 (oT : St) (oB : St) (v5 : Int32) (K : Int64 → St → Option (Int64 × St)) : Nat → Int64 → Int32 → St → Option (Int64 × St)
  | 0, _, _, _ => none
  | n + 1, v3, v6, oG =>
    if 6 < v6 then
      K v3 oG
    else
      bn2 (f_X5_tell oT oB oG v5 v6) fun x9 oG10 =>
      bn1 (some ((31 * v3) + ((x9 : Int32).toInt64))) fun y12 =>
      f_X6_withSpots_L52 oT oB v5 K n y12 (v6 + 1) oG10
theorem f_X6_withSpots_L52_s (oT : St) (oB : St) (v5 : Int32) (K : Int64 → St → Option (Int64 × St)) (n : Nat) (v3 : Int64) (v6 : Int32) (oG : St) : f_X6_withSpots_L52 oT oB v5 K (n + 1) v3 v6 oG =
    if 6 < v6 then
      K v3 oG
    else
      bn2 (f_X5_tell oT oB oG v5 v6) fun x9 oG10 =>
      bn1 (some ((31 * v3) + ((x9 : Int32).toInt64))) fun y12 =>
      f_X6_withSpots_L52 oT oB v5 K n y12 (v6 + 1) oG10 := rfl
def f_X6_withSpots_L37 (oT : St) (oB : St) : Nat → Int64 → Int32 → St → Option (Int64 × St)
  | 0, _, _, _ => none
  | n + 1, v3, v5, oG =>
    if (oT.1 4) ≤ v5 then
      some (v3, oG)
    else
      f_X6_withSpots_L52 oT oB v5 (fun (v14 : Int64) (oG15 : St) =>
          f_X6_withSpots_L37 oT oB n v14 (v5 + 1) oG15
        ) fu v3 0 oG
theorem f_X6_withSpots_L37_s (oT : St) (oB : St) (n : Nat) (v3 : Int64) (v5 : Int32) (oG : St) : f_X6_withSpots_L37 oT oB (n + 1) v3 v5 oG =
    if (oT.1 4) ≤ v5 then
      some (v3, oG)
    else
      f_X6_withSpots_L52 oT oB v5 (fun (v14 : Int64) (oG15 : St) =>
          f_X6_withSpots_L37 oT oB n v14 (v5 + 1) oG15
        ) fu v3 0 oG := rfl
def f_X6_withSpots (oT : St) (oB : St) (oG : St) (a1 : Int64) : Option (Int64 × St) :=
  f_X6_withSpots_L5 oT (fun (v6 : Int64) =>
      f_X6_withSpots_L37 oT oB fu v6 0 oG
    ) fu a1 0
def f_X6_withRings_L20 (oR : St) (oB : St) (v5 : Int32) (K : Int64 → St → Option (Int64 × St)) : Nat → Int64 → Int32 → St → Option (Int64 × St)
  | 0, _, _, _ => none
  | n + 1, v3, v6, oG =>
    if 6 < v6 then
      K v3 oG
    else
      bn2 (f_X3_tell oR oB oG v5 v6) fun x3 oG4 =>
      bn1 (some ((31 * v3) + ((x3 : Int32).toInt64))) fun y6 =>
      f_X6_withRings_L20 oR oB v5 K n y6 (v6 + 1) oG4
theorem f_X6_withRings_L20_s (oR : St) (oB : St) (v5 : Int32) (K : Int64 → St → Option (Int64 × St)) (n : Nat) (v3 : Int64) (v6 : Int32) (oG : St) : f_X6_withRings_L20 oR oB v5 K (n + 1) v3 v6 oG =
    if 6 < v6 then
      K v3 oG
    else
      bn2 (f_X3_tell oR oB oG v5 v6) fun x3 oG4 =>
      bn1 (some ((31 * v3) + ((x3 : Int32).toInt64))) fun y6 =>
      f_X6_withRings_L20 oR oB v5 K n y6 (v6 + 1) oG4 := rfl
def f_X6_withRings_L5 (oR : St) (oB : St) : Nat → Int64 → Int32 → St → Option (Int64 × St)
  | 0, _, _, _ => none
  | n + 1, v3, v5, oG =>
    if (oR.1 4) ≤ v5 then
      some (v3, oG)
    else
      f_X6_withRings_L20 oR oB v5 (fun (v8 : Int64) (oG9 : St) =>
          f_X6_withRings_L5 oR oB n v8 (v5 + 1) oG9
        ) fu v3 0 oG
theorem f_X6_withRings_L5_s (oR : St) (oB : St) (n : Nat) (v3 : Int64) (v5 : Int32) (oG : St) : f_X6_withRings_L5 oR oB (n + 1) v3 v5 oG =
    if (oR.1 4) ≤ v5 then
      some (v3, oG)
    else
      f_X6_withRings_L20 oR oB v5 (fun (v8 : Int64) (oG9 : St) =>
          f_X6_withRings_L5 oR oB n v8 (v5 + 1) oG9
        ) fu v3 0 oG := rfl
def f_X6_withRings (oR : St) (oB : St) (oG : St) (a1 : Int64) : Option (Int64 × St) :=
  f_X6_withRings_L5 oR oB fu a1 0 oG
def f_X6_digest_L41 (oP : St) (K : Int64 → Option (Int64 × St × St × St)) : Nat → Int64 → Int32 → Option (Int64 × St × St × St)
  | 0, _, _ => none
  | n + 1, v1, v3 =>
    if (oP.1 1) ≤ v3 then
      K v1
    else
      bn1 (ag 50 (oP.2.2 0) v3) fun x5 =>
      bn1 (some ((31 * v1) + ((x5 : Int32).toInt64))) fun y7 =>
      f_X6_digest_L41 oP K n y7 (v3 + 1)
theorem f_X6_digest_L41_s (oP : St) (K : Int64 → Option (Int64 × St × St × St)) (n : Nat) (v1 : Int64) (v3 : Int32) : f_X6_digest_L41 oP K (n + 1) v1 v3 =
    if (oP.1 1) ≤ v3 then
      K v1
    else
      bn1 (ag 50 (oP.2.2 0) v3) fun x5 =>
      bn1 (some ((31 * v1) + ((x5 : Int32).toInt64))) fun y7 =>
      f_X6_digest_L41 oP K n y7 (v3 + 1) := rfl
def f_X6_digest_L77 (oX : St) (oP : St) (oR : St) (oT : St) (oB : St) (oC : St) (oG : St) : Nat → Int64 → Int32 → Option (Int64 × St × St × St)
  | 0, _, _ => none
  | n + 1, v1, v3 =>
    if 6 < v3 then
      some (v1, oT, oC, oG)
    else
      bn1 (f_X6_count oX oP oR oB v3) fun x11 =>
      bn1 (some ((31 * v1) + ((x11 : Int32).toInt64))) fun y13 =>
      f_X6_digest_L77 oX oP oR oT oB oC oG n y13 (v3 + 1)
theorem f_X6_digest_L77_s (oX : St) (oP : St) (oR : St) (oT : St) (oB : St) (oC : St) (oG : St) (n : Nat) (v1 : Int64) (v3 : Int32) : f_X6_digest_L77 oX oP oR oT oB oC oG (n + 1) v1 v3 =
    if 6 < v3 then
      some (v1, oT, oC, oG)
    else
      bn1 (f_X6_count oX oP oR oB v3) fun x11 =>
      bn1 (some ((31 * v1) + ((x11 : Int32).toInt64))) fun y13 =>
      f_X6_digest_L77 oX oP oR oT oB oC oG n y13 (v3 + 1) := rfl
def f_X6_digest (oX : St) (oP : St) (oR : St) (oT : St) (oB : St) (oC : St) (oG : St) : Option (Int64 × St × St × St) :=
  bn1 (f_X0_isThere oB) fun x1 =>
  if x1 = 0 then
    f_X6_digest_L41 oP (fun (v9 : Int64) =>
        f_X6_digest_L77 oX oP oR oT oB oC oG fu v9 0
      ) fu 1559 0
  else
    bn3 (f_X5_refresh oT oB oC oG) fun oT15 oC16 oG17 =>
    bn1 (f_X6_withDots oR oB 1559) fun x19 =>
    bn2 (f_X6_withSpots oT15 oB oG17 x19) fun x21 oG22 =>
    bn2 (f_X6_withRings oR oB oG22 x21) fun x24 oG25 =>
    f_X6_digest_L41 oP (fun (v27 : Int64) =>
        f_X6_digest_L77 oX oP oR oT15 oB oC16 oG25 fu v27 0
      ) fu x24 0
def f_X7_within (a0 : Int32) (a1 : Int32) (a2 : Int32) : Option (Int32) :=
  if a0 < a1 then
    some (0)
  else
    if a2 < a0 then
      some (0)
    else
      some (1)
def f_X7_abs (a0 : Int32) : Option (Int32) :=
  if 0 ≤ a0 then
    some (a0)
  else
    some (-a0)
def f_X7_size_L4 (v0 : Int32) : Nat → Int32 → Int32 → Option (Int32)
  | 0, _, _ => none
  | n + 1, v1, v2 =>
    if 14 ≤ v2 then
      some (v1)
    else
      bn1 (some (v1 + ((v0 >>> (v2 &&& 31)) &&& 1))) fun y2 =>
      f_X7_size_L4 v0 n y2 (v2 + 1)
theorem f_X7_size_L4_s (v0 : Int32) (n : Nat) (v1 : Int32) (v2 : Int32) : f_X7_size_L4 v0 (n + 1) v1 v2 =
    if 14 ≤ v2 then
      some (v1)
    else
      bn1 (some (v1 + ((v0 >>> (v2 &&& 31)) &&& 1))) fun y2 =>
      f_X7_size_L4 v0 n y2 (v2 + 1) := rfl
def f_X7_size (a0 : Int32) : Option (Int32) :=
  f_X7_size_L4 a0 fu 0 0
def f_X7_letter (oM : St) (a1 : Int32) : Option (Int32 × St) :=
  bn1 (f_X7_within a1 32 126) fun x1 =>
  if x1 = 0 then
    some ((-102), oM)
  else
    if (oM.1 0) = 50 then
      some ((-104), oM)
    else
      bn1 (aw 50 oM 1 (oM.1 0) a1) fun oM6 =>
      some ((oM6.1 0) + 1, (sI oM6 0 ((oM6.1 0) + 1)))
def f_X7_blank (oM : St) : Option (Int32 × St) :=
  some (oM.1 0, (sI oM 0 0))
def f_X7_beginsSide (oM : St) (a1 : Int32) (a2 : Int32) : Option (Int32 × St) :=
  bn1 (f_X7_within (a1 - 48) 1 9) fun x1 =>
  if x1 = 0 then
    if x1 = 0 ∨ x1 = 1 then
      some (x1, (sI (sI oM 19 (a1 - 48)) 18 (oM.1 18)))
    else none
  else
    if x1 = 0 ∨ x1 = 1 then
      some (x1, (sI (sI oM 19 (a1 - 48)) 18 a2))
    else none
def f_X7_goesOnSide (oM : St) (a1 : Int32) (a2 : Int32) : Option (Int32 × St) :=
  if a1 = a2 then
    if (oM.1 19) < 4 then
      some (0, (sI oM 18 ((oM.1 18) + 1)))
    else
      some (1, (sI oM 18 ((oM.1 18) + 1)))
  else
    if 4 ≤ (oM.1 19) then
      some (0, (sI oM 19 (oM.1 19)))
    else
      bn1 (f_X7_within (a1 - 48) 0 9) fun x4 =>
      if x4 = 0 then
        some (0, (sI oM 19 (oM.1 19)))
      else
        bn1 (f_X7_within ((10 * (oM.1 19)) + (a1 - 48)) 10 31) fun x8 =>
        if x8 = 0 then
          some (0, (sI oM 19 (oM.1 19)))
        else
          some (1, (sI oM 19 ((10 * (oM.1 19)) + (a1 - 48))))
def f_X7_numberBy (a0 : Int32) : Option (Int32) :=
  bn1 (f_X7_within a0 48 57) fun x1 =>
  if x1 = 0 then
    bn1 (f_X7_within a0 97 117) fun x4 =>
    if x4 = 0 then
      some ((-1))
    else
      some ((a0 - 97) + 10)
  else
    some (a0 - 48)
def f_X7_newIn_L4 (oM : St) (v1 : Int32) : Nat → Int32 → Int32 → Option (Int32)
  | 0, _, _ => none
  | n + 1, v2, v3 =>
    if (oM.1 22) ≤ v3 then
      some (v2)
    else
      bn1 (ag 14 (oM.2.2 23) v3) fun x2 =>
      if x2 = v1 then
        f_X7_newIn_L4 oM v1 n (v2 + 1) (v3 + 1)
      else
        f_X7_newIn_L4 oM v1 n (v2 + 0) (v3 + 1)
theorem f_X7_newIn_L4_s (oM : St) (v1 : Int32) (n : Nat) (v2 : Int32) (v3 : Int32) : f_X7_newIn_L4 oM v1 (n + 1) v2 v3 =
    if (oM.1 22) ≤ v3 then
      some (v2)
    else
      bn1 (ag 14 (oM.2.2 23) v3) fun x2 =>
      if x2 = v1 then
        f_X7_newIn_L4 oM v1 n (v2 + 1) (v3 + 1)
      else
        f_X7_newIn_L4 oM v1 n (v2 + 0) (v3 + 1) := rfl
def f_X7_newIn (oM : St) (a1 : Int32) : Option (Int32) :=
  f_X7_newIn_L4 oM a1 fu 0 0
def f_X7_isNewAt_L5 (oM : St) (v1 : Int32) (v2 : Int32) : Nat → Int32 → Int32 → Option (Int32)
  | 0, _, _ => none
  | n + 1, v3, v4 =>
    if (oM.1 22) ≤ v4 then
      if v3 = 0 ∨ v3 = 1 then
        some (v3)
      else none
    else
      if v3 = 0 then
        bn1 (ag 14 (oM.2.2 23) v4) fun x3 =>
        if x3 = v1 then
          bn1 (ag 14 (oM.2.2 24) v4) fun x6 =>
          if x6 = v2 then
            f_X7_isNewAt_L5 oM v1 v2 n 1 (v4 + 1)
          else
            f_X7_isNewAt_L5 oM v1 v2 n 0 (v4 + 1)
        else
          f_X7_isNewAt_L5 oM v1 v2 n 0 (v4 + 1)
      else
        f_X7_isNewAt_L5 oM v1 v2 n 1 (v4 + 1)
theorem f_X7_isNewAt_L5_s (oM : St) (v1 : Int32) (v2 : Int32) (n : Nat) (v3 : Int32) (v4 : Int32) : f_X7_isNewAt_L5 oM v1 v2 (n + 1) v3 v4 =
    if (oM.1 22) ≤ v4 then
      if v3 = 0 ∨ v3 = 1 then
        some (v3)
      else none
    else
      if v3 = 0 then
        bn1 (ag 14 (oM.2.2 23) v4) fun x3 =>
        if x3 = v1 then
          bn1 (ag 14 (oM.2.2 24) v4) fun x6 =>
          if x6 = v2 then
            f_X7_isNewAt_L5 oM v1 v2 n 1 (v4 + 1)
          else
            f_X7_isNewAt_L5 oM v1 v2 n 0 (v4 + 1)
        else
          f_X7_isNewAt_L5 oM v1 v2 n 0 (v4 + 1)
      else
        f_X7_isNewAt_L5 oM v1 v2 n 1 (v4 + 1) := rfl
def f_X7_isNewAt (oM : St) (a1 : Int32) (a2 : Int32) : Option (Int32) :=
  f_X7_isNewAt_L5 oM a1 a2 fu 0 0
def f_X7_takesX (oM : St) (a1 : Int32) : Option (Int32 × St) :=
  bn1 (f_X7_numberBy a1) fun x1 =>
  if 14 ≤ (oM.1 22) then
    some (0, oM)
  else
    bn1 (f_X7_within x1 0 ((oM.1 20) - 1)) fun x5 =>
    if x5 = 0 then
      some (0, oM)
    else
      bn1 (f_X7_newIn oM x1) fun x9 =>
      if (oM.1 21) ≤ x9 then
        some (0, oM)
      else
        bn1 (aw 14 oM 23 (oM.1 22) x1) fun oM15 =>
        some (1, (sI oM15 18 5))
def f_X7_takesY (oM : St) (a1 : Int32) : Option (Int32 × St) :=
  bn1 (f_X7_numberBy a1) fun x1 =>
  bn1 (f_X7_within x1 0 ((oM.1 21) - 1)) fun x3 =>
  if x3 = 0 then
    some (0, oM)
  else
    bn1 (ag 14 (oM.2.2 23) (oM.1 22)) fun x7 =>
    bn1 (f_X7_isNewAt oM x7 x1) fun x9 =>
    if x9 = 0 then
      bn1 (aw 14 oM 24 (oM.1 22) x1) fun oM15 =>
      some (1, (sI oM15 18 6))
    else
      some (0, oM)
def f_X7_takesTurn (oM : St) (a1 : Int32) : Option (Int32 × St) :=
  if a1 = 45 then
    if a1 = 45 then
      bn1 (aw 14 oM 25 (oM.1 22) ((-1))) fun oM7 =>
      some (1, (sI (sI oM7 22 ((oM7.1 22) + 1)) 18 4))
    else
      bn1 (aw 14 oM 25 (oM.1 22) (a1 - 48)) fun oM5 =>
      some (1, (sI (sI oM5 22 ((oM5.1 22) + 1)) 18 4))
  else
    bn1 (f_X7_within a1 48 55) fun x8 =>
    if x8 = 0 then
      some (0, oM)
    else
      if a1 = 45 then
        bn1 (aw 14 oM 25 (oM.1 22) ((-1))) fun oM17 =>
        some (1, (sI (sI oM17 22 ((oM17.1 22) + 1)) 18 4))
      else
        bn1 (aw 14 oM 25 (oM.1 22) (a1 - 48)) fun oM15 =>
        some (1, (sI (sI oM15 22 ((oM15.1 22) + 1)) 18 4))
def f_X7_takes (oM : St) (a1 : Int32) : Option (Int32 × St) :=
  if (oM.1 18) = 0 then
    bn2 (f_X7_beginsSide oM a1 1) fun x2 oM3 =>
    if x2 = 0 ∨ x2 = 1 then
      some (x2, oM3)
    else none
  else
    if (oM.1 18) = 1 then
      bn2 (f_X7_goesOnSide oM a1 120) fun x6 oM7 =>
      if x6 = 0 ∨ x6 = 1 then
        some (x6, oM7)
      else none
    else
      if (oM.1 18) = 2 then
        bn2 (f_X7_beginsSide ((sI oM 20 (oM.1 19))) a1 3) fun x10 oM11 =>
        if x10 = 0 ∨ x10 = 1 then
          some (x10, oM11)
        else none
      else
        if (oM.1 18) = 3 then
          bn2 (f_X7_goesOnSide oM a1 58) fun x14 oM15 =>
          if x14 = 0 ∨ x14 = 1 then
            some (x14, oM15)
          else none
        else
          if (oM.1 18) = 4 then
            if (oM.1 22) = 0 then
              bn2 (f_X7_takesX ((sI oM 21 (oM.1 19))) a1) fun x22 oM23 =>
              if x22 = 0 ∨ x22 = 1 then
                some (x22, oM23)
              else none
            else
              bn2 (f_X7_takesX ((sI oM 21 (oM.1 21))) a1) fun x19 oM20 =>
              if x19 = 0 ∨ x19 = 1 then
                some (x19, oM20)
              else none
          else
            if (oM.1 18) = 5 then
              bn2 (f_X7_takesY oM a1) fun x26 oM27 =>
              if x26 = 0 ∨ x26 = 1 then
                some (x26, oM27)
              else none
            else
              bn2 (f_X7_takesTurn oM a1) fun x29 oM30 =>
              if x29 = 0 ∨ x29 = 1 then
                some (x29, oM30)
              else none
def f_X7_read_L12 : Nat → Int32 → St → Option (Int32 × St)
  | 0, _, _ => none
  | n + 1, v1, oM =>
    if (oM.1 0) ≤ v1 then
      some (v1, oM)
    else
      bn1 (ag 50 (oM.2.2 1) v1) fun x2 =>
      bn2 (f_X7_takes oM x2) fun x4 oM5 =>
      if x4 = 0 then
        some (v1, oM5)
      else
        f_X7_read_L12  n (v1 + 1) oM5
theorem f_X7_read_L12_s (n : Nat) (v1 : Int32) (oM : St) : f_X7_read_L12  (n + 1) v1 oM =
    if (oM.1 0) ≤ v1 then
      some (v1, oM)
    else
      bn1 (ag 50 (oM.2.2 1) v1) fun x2 =>
      bn2 (f_X7_takes oM x2) fun x4 oM5 =>
      if x4 = 0 then
        some (v1, oM5)
      else
        f_X7_read_L12  n (v1 + 1) oM5 := rfl
def f_X7_read (oM : St) : Option (Int32 × St) :=
  f_X7_read_L12 fu 0 ((sI (sI oM 18 0) 22 0))
def f_X7_fault (oM : St) : Option (Int32 × St) :=
  bn2 (f_X7_read oM) fun x1 oM2 =>
  some (x1, oM2)
def f_X7_sheet_L62 (K : St → Option (Int32 × St)) : Nat → Int32 → St → Option (Int32 × St)
  | 0, _, _ => none
  | n + 1, v1, oM =>
    if (oM.1 5) ≤ v1 then
      K oM
    else
      bn1 (ag 14 (oM.2.2 23) v1) fun x8 =>
      bn1 (aw 14 oM 6 v1 x8) fun oM11 =>
      bn1 (ag 14 (oM11.2.2 24) v1) fun x12 =>
      bn1 (aw 14 oM11 7 v1 x12) fun oM15 =>
      bn1 (ag 14 (oM15.2.2 25) v1) fun x16 =>
      bn1 (aw 14 oM15 8 v1 x16) fun oM19 =>
      f_X7_sheet_L62 K n (v1 + 1) oM19
theorem f_X7_sheet_L62_s (K : St → Option (Int32 × St)) (n : Nat) (v1 : Int32) (oM : St) : f_X7_sheet_L62 K (n + 1) v1 oM =
    if (oM.1 5) ≤ v1 then
      K oM
    else
      bn1 (ag 14 (oM.2.2 23) v1) fun x8 =>
      bn1 (aw 14 oM 6 v1 x8) fun oM11 =>
      bn1 (ag 14 (oM11.2.2 24) v1) fun x12 =>
      bn1 (aw 14 oM11 7 v1 x12) fun oM15 =>
      bn1 (ag 14 (oM15.2.2 25) v1) fun x16 =>
      bn1 (aw 14 oM15 8 v1 x16) fun oM19 =>
      f_X7_sheet_L62 K n (v1 + 1) oM19 := rfl
def f_X7_sheet (oM : St) : Option (Int32 × St) :=
  bn2 (f_X7_read oM) fun x1 oM2 =>
  if x1 < (oM2.1 0) then
    some ((-103), oM2)
  else
    if (oM2.1 18) = 4 then
      if (oM2.1 22) = 0 then
        f_X7_sheet_L62  (fun (oM31 : St) =>
            bn1 (aw 5 oM31 9 0 2) fun oM33 =>
            bn1 (aw 5 oM33 9 1 12) fun oM35 =>
            bn1 (aw 5 oM35 9 2 1) fun oM37 =>
            bn1 (aw 5 oM37 9 3 4) fun oM39 =>
            bn1 (aw 5 oM39 9 4 3) fun oM41 =>
            some (oM41.1 5, (sI (sI (sI oM41 10 0) 4 ((oM41.1 4) + 1)) 0 0))
          ) fu 0 ((sI (sI (sI oM2 2 (oM2.1 20)) 3 (oM2.1 19)) 5 (oM2.1 22)))
      else
        f_X7_sheet_L62  (fun (oM20 : St) =>
            bn1 (aw 5 oM20 9 0 2) fun oM22 =>
            bn1 (aw 5 oM22 9 1 12) fun oM24 =>
            bn1 (aw 5 oM24 9 2 1) fun oM26 =>
            bn1 (aw 5 oM26 9 3 4) fun oM28 =>
            bn1 (aw 5 oM28 9 4 3) fun oM30 =>
            some (oM30.1 5, (sI (sI (sI oM30 10 0) 4 ((oM30.1 4) + 1)) 0 0))
          ) fu 0 ((sI (sI (sI oM2 2 (oM2.1 20)) 3 (oM2.1 21)) 5 (oM2.1 22)))
    else
      some ((-103), oM2)
def f_X7_isSheet (oM : St) : Option (Int32) :=
  if (oM.1 2) ≤ 0 then
    some (0)
  else
    some (1)
def f_X7_inkOne (oM : St) (a1 : Int32) : Option (St) :=
  if (oM.1 27) = (oM.1 26) then
    some ((sI (sI oM 28 a1) 27 ((oM.1 27) + 1)))
  else
    some ((sI (sI oM 28 (oM.1 28)) 27 ((oM.1 27) + 1)))
def f_X7_inkSide (oM : St) (a1 : Int32) : Option (St) :=
  if a1 ≤ 9 then
    bn1 (f_X7_inkOne oM (48 + (a1 - a1 / 10 * 10))) fun oM2 =>
    some (oM2)
  else
    bn1 (f_X7_inkOne oM (48 + (a1 / 10))) fun oM4 =>
    bn1 (f_X7_inkOne oM4 (48 + (a1 - a1 / 10 * 10))) fun oM6 =>
    some (oM6)
def f_X7_codeOf (a0 : Int32) : Option (Int32) :=
  if 10 ≤ a0 then
    some ((97 + a0) - 10)
  else
    some (48 + a0)
def f_X7_inkNow_L45 : Nat → Int32 → St → Option (Int32 × St)
  | 0, _, _ => none
  | n + 1, v2, oM =>
    if (oM.1 5) ≤ v2 then
      some (oM.1 28, oM)
    else
      bn1 (ag 14 (oM.2.2 6) v2) fun x10 =>
      bn1 (f_X7_codeOf x10) fun x12 =>
      bn1 (f_X7_inkOne oM x12) fun oM14 =>
      bn1 (ag 14 (oM14.2.2 7) v2) fun x16 =>
      bn1 (f_X7_codeOf x16) fun x18 =>
      bn1 (f_X7_inkOne oM14 x18) fun oM20 =>
      bn1 (ag 14 (oM20.2.2 8) v2) fun x22 =>
      if x22 = ((-1)) then
        bn1 (f_X7_inkOne oM20 45) fun oM29 =>
        f_X7_inkNow_L45  n (v2 + 1) oM29
      else
        bn1 (ag 14 (oM20.2.2 8) v2) fun x25 =>
        bn1 (f_X7_inkOne oM20 (48 + x25)) fun oM27 =>
        f_X7_inkNow_L45  n (v2 + 1) oM27
theorem f_X7_inkNow_L45_s (n : Nat) (v2 : Int32) (oM : St) : f_X7_inkNow_L45  (n + 1) v2 oM =
    if (oM.1 5) ≤ v2 then
      some (oM.1 28, oM)
    else
      bn1 (ag 14 (oM.2.2 6) v2) fun x10 =>
      bn1 (f_X7_codeOf x10) fun x12 =>
      bn1 (f_X7_inkOne oM x12) fun oM14 =>
      bn1 (ag 14 (oM14.2.2 7) v2) fun x16 =>
      bn1 (f_X7_codeOf x16) fun x18 =>
      bn1 (f_X7_inkOne oM14 x18) fun oM20 =>
      bn1 (ag 14 (oM20.2.2 8) v2) fun x22 =>
      if x22 = ((-1)) then
        bn1 (f_X7_inkOne oM20 45) fun oM29 =>
        f_X7_inkNow_L45  n (v2 + 1) oM29
      else
        bn1 (ag 14 (oM20.2.2 8) v2) fun x25 =>
        bn1 (f_X7_inkOne oM20 (48 + x25)) fun oM27 =>
        f_X7_inkNow_L45  n (v2 + 1) oM27 := rfl
def f_X7_inkNow (oM : St) (a1 : Int32) : Option (Int32 × St) :=
  bn1 (f_X7_inkSide ((sI (sI (sI oM 26 a1) 27 0) 28 ((-1)))) (oM.1 2)) fun oM1 =>
  bn1 (f_X7_inkOne oM1 120) fun oM3 =>
  bn1 (f_X7_inkSide oM3 (oM3.1 3)) fun oM5 =>
  bn1 (f_X7_inkOne oM5 58) fun oM7 =>
  f_X7_inkNow_L45 fu 0 oM7
def f_X7_ink (oM : St) (a1 : Int32) : Option (Int32 × St) :=
  bn1 (f_X7_isSheet oM) fun x1 =>
  if x1 = 0 then
    some ((-103), oM)
  else
    if 0 ≤ a1 then
      bn2 (f_X7_inkNow oM a1) fun x5 oM6 =>
      some (x5, oM6)
    else
      some ((-101), oM)
def f_X7_isOn (oM : St) (a1 : Int32) (a2 : Int32) : Option (Int32) :=
  bn1 (f_X7_within a1 0 ((oM.1 2) - 1)) fun x1 =>
  if x1 = 0 then
    some (0)
  else
    bn1 (f_X7_within a2 0 ((oM.1 3) - 1)) fun x4 =>
    if x4 = 0 then
      some (0)
    else
      some (1)
def f_X7_isTaken_L5 (oM : St) (v1 : Int32) (v2 : Int32) : Nat → Int32 → Int32 → Option (Int32)
  | 0, _, _ => none
  | n + 1, v3, v4 =>
    if (oM.1 5) ≤ v4 then
      if v3 = 0 ∨ v3 = 1 then
        some (v3)
      else none
    else
      if v3 = 0 then
        bn1 (ag 14 (oM.2.2 6) v4) fun x3 =>
        if x3 = v1 then
          bn1 (ag 14 (oM.2.2 7) v4) fun x6 =>
          if x6 = v2 then
            f_X7_isTaken_L5 oM v1 v2 n 1 (v4 + 1)
          else
            f_X7_isTaken_L5 oM v1 v2 n 0 (v4 + 1)
        else
          f_X7_isTaken_L5 oM v1 v2 n 0 (v4 + 1)
      else
        f_X7_isTaken_L5 oM v1 v2 n 1 (v4 + 1)
theorem f_X7_isTaken_L5_s (oM : St) (v1 : Int32) (v2 : Int32) (n : Nat) (v3 : Int32) (v4 : Int32) : f_X7_isTaken_L5 oM v1 v2 (n + 1) v3 v4 =
    if (oM.1 5) ≤ v4 then
      if v3 = 0 ∨ v3 = 1 then
        some (v3)
      else none
    else
      if v3 = 0 then
        bn1 (ag 14 (oM.2.2 6) v4) fun x3 =>
        if x3 = v1 then
          bn1 (ag 14 (oM.2.2 7) v4) fun x6 =>
          if x6 = v2 then
            f_X7_isTaken_L5 oM v1 v2 n 1 (v4 + 1)
          else
            f_X7_isTaken_L5 oM v1 v2 n 0 (v4 + 1)
        else
          f_X7_isTaken_L5 oM v1 v2 n 0 (v4 + 1)
      else
        f_X7_isTaken_L5 oM v1 v2 n 1 (v4 + 1) := rfl
def f_X7_isTaken (oM : St) (a1 : Int32) (a2 : Int32) : Option (Int32) :=
  f_X7_isTaken_L5 oM a1 a2 fu 0 0
def f_X7_isDot (oM : St) (a1 : Int32) : Option (Int32) :=
  bn1 (f_X7_isSheet oM) fun x1 =>
  if x1 = 0 then
    some (0)
  else
    bn1 (f_X7_within a1 0 ((oM.1 5) - 1)) fun x4 =>
    if x4 = 0 then
      some (0)
    else
      some (1)
def f_X7_comes (oM : St) (a1 : Int32) (a2 : Int32) (a3 : Int32) : Option (St) :=
  bn1 (aw 14 oM 6 (oM.1 5) a1) fun oM2 =>
  bn1 (aw 14 oM2 7 (oM2.1 5) a2) fun oM4 =>
  bn1 (aw 14 oM4 8 (oM4.1 5) a3) fun oM6 =>
  some ((sI (sI oM6 5 ((oM6.1 5) + 1)) 10 0))
def f_X7_dot (oM : St) (a1 : Int32) (a2 : Int32) (a3 : Int32) : Option (Int32 × St) :=
  bn1 (f_X7_isSheet oM) fun x1 =>
  if x1 = 0 then
    some ((-103), oM)
  else
    bn1 (f_X7_isOn oM a1 a2) fun x4 =>
    if x4 = 0 then
      some ((-102), oM)
    else
      bn1 (f_X7_within a3 ((-1)) 7) fun x7 =>
      if x7 = 0 then
        some ((-102), oM)
      else
        bn1 (f_X7_isTaken oM a1 a2) fun x10 =>
        if x10 = 0 then
          if (oM.1 5) = 14 then
            some ((-104), oM)
          else
            bn1 (f_X7_comes oM a1 a2 a3) fun oM14 =>
            some ((oM14.1 5) - 1, oM14)
        else
          some ((-103), oM)
def f_X7_lift_L23 : Nat → Int32 → St → Option (Int32 × St)
  | 0, _, _ => none
  | n + 1, v2, oM =>
    if (oM.1 5) ≤ v2 then
      some (oM.1 5, (sI oM 10 0))
    else
      bn1 (ag 14 (oM.2.2 6) (v2 + 1)) fun x5 =>
      bn1 (aw 14 oM 6 v2 x5) fun oM8 =>
      bn1 (ag 14 (oM8.2.2 7) (v2 + 1)) fun x9 =>
      bn1 (aw 14 oM8 7 v2 x9) fun oM12 =>
      bn1 (ag 14 (oM12.2.2 8) (v2 + 1)) fun x13 =>
      bn1 (aw 14 oM12 8 v2 x13) fun oM16 =>
      f_X7_lift_L23  n (v2 + 1) oM16
theorem f_X7_lift_L23_s (n : Nat) (v2 : Int32) (oM : St) : f_X7_lift_L23  (n + 1) v2 oM =
    if (oM.1 5) ≤ v2 then
      some (oM.1 5, (sI oM 10 0))
    else
      bn1 (ag 14 (oM.2.2 6) (v2 + 1)) fun x5 =>
      bn1 (aw 14 oM 6 v2 x5) fun oM8 =>
      bn1 (ag 14 (oM8.2.2 7) (v2 + 1)) fun x9 =>
      bn1 (aw 14 oM8 7 v2 x9) fun oM12 =>
      bn1 (ag 14 (oM12.2.2 8) (v2 + 1)) fun x13 =>
      bn1 (aw 14 oM12 8 v2 x13) fun oM16 =>
      f_X7_lift_L23  n (v2 + 1) oM16 := rfl
def f_X7_lift (oM : St) (a1 : Int32) : Option (Int32 × St) :=
  bn1 (f_X7_isDot oM a1) fun x1 =>
  if x1 = 0 then
    some ((-101), oM)
  else
    f_X7_lift_L23 fu a1 ((sI oM 5 ((oM.1 5) - 1)))
def f_X7_turnX (a0 : Int32) : Option (Int32) :=
  if a0 = 2 then
    some (0)
  else
    if a0 = 6 then
      some (0)
    else
      if a0 ≤ 2 then
        some (1)
      else
        if 6 ≤ a0 then
          some (1)
        else
          some ((-1))
def f_X7_turnY (a0 : Int32) : Option (Int32) :=
  if a0 = 0 then
    some (0)
  else
    if a0 = 4 then
      some (0)
    else
      if 4 ≤ a0 then
        some ((-1))
      else
        some (1)
def f_X7_comesIfFree (oM : St) (a1 : Int32) (a2 : Int32) (a3 : Int32) : Option (Int32 × St) :=
  bn1 (f_X7_isOn oM a1 a2) fun x1 =>
  if x1 = 0 then
    some (0, oM)
  else
    bn1 (f_X7_isTaken oM a1 a2) fun x5 =>
    if x5 = 0 then
      if 14 ≤ (oM.1 5) then
        some (0, oM)
      else
        bn1 (f_X7_comes oM a1 a2 a3) fun oM12 =>
        some (1, oM12)
    else
      some (0, oM)
def f_X7_stepsOf_L2 (v0 : Int32) (v1 : Int32) : Nat → Int32 → Option (Int32)
  | 0, _ => none
  | n + 1, v2 =>
    if (v0 - v0 / 2 * 2) = 1 then
      if ((2 * v2) * v2) ≤ (v1 * v1) then
        some (v2)
      else
        f_X7_stepsOf_L2 v0 v1 n (v2 + (-1))
    else
      some (v2)
theorem f_X7_stepsOf_L2_s (v0 : Int32) (v1 : Int32) (n : Nat) (v2 : Int32) : f_X7_stepsOf_L2 v0 v1 (n + 1) v2 =
    if (v0 - v0 / 2 * 2) = 1 then
      if ((2 * v2) * v2) ≤ (v1 * v1) then
        some (v2)
      else
        f_X7_stepsOf_L2 v0 v1 n (v2 + (-1))
    else
      some (v2) := rfl
def f_X7_stepsOf (a0 : Int32) (a1 : Int32) : Option (Int32) :=
  f_X7_stepsOf_L2 a0 a1 fu a1
def f_X7_arc_L63 (v1 : Int32) (v2 : Int32) (v3 : Int32) (v4 : Int32) : Nat → Int32 → Int32 → St → Option (Int32 × St)
  | 0, _, _, _ => none
  | n + 1, v5, v6, oM =>
    if 8 ≤ v6 then
      some (v5, oM)
    else
      bn1 (f_X7_stepsOf v6 v3) fun x17 =>
      if ((v4 >>> (v6 &&& 31)) &&& 1) = 1 then
        bn1 (f_X7_turnX v6) fun x21 =>
        bn1 (f_X7_turnY v6) fun x23 =>
        bn2 (f_X7_comesIfFree oM (v1 - (x17 * x21)) (v2 - (x17 * x23)) v6) fun x25 oM26 =>
        if x25 = 0 then
          f_X7_arc_L63 v1 v2 v3 v4 n (v5 + 0) (v6 + 1) oM26
        else
          f_X7_arc_L63 v1 v2 v3 v4 n (v5 + 1) (v6 + 1) oM26
      else
        f_X7_arc_L63 v1 v2 v3 v4 n (v5 + 0) (v6 + 1) oM
theorem f_X7_arc_L63_s (v1 : Int32) (v2 : Int32) (v3 : Int32) (v4 : Int32) (n : Nat) (v5 : Int32) (v6 : Int32) (oM : St) : f_X7_arc_L63 v1 v2 v3 v4 (n + 1) v5 v6 oM =
    if 8 ≤ v6 then
      some (v5, oM)
    else
      bn1 (f_X7_stepsOf v6 v3) fun x17 =>
      if ((v4 >>> (v6 &&& 31)) &&& 1) = 1 then
        bn1 (f_X7_turnX v6) fun x21 =>
        bn1 (f_X7_turnY v6) fun x23 =>
        bn2 (f_X7_comesIfFree oM (v1 - (x17 * x21)) (v2 - (x17 * x23)) v6) fun x25 oM26 =>
        if x25 = 0 then
          f_X7_arc_L63 v1 v2 v3 v4 n (v5 + 0) (v6 + 1) oM26
        else
          f_X7_arc_L63 v1 v2 v3 v4 n (v5 + 1) (v6 + 1) oM26
      else
        f_X7_arc_L63 v1 v2 v3 v4 n (v5 + 0) (v6 + 1) oM := rfl
def f_X7_arc (oM : St) (a1 : Int32) (a2 : Int32) (a3 : Int32) (a4 : Int32) : Option (Int32 × St) :=
  bn1 (f_X7_isSheet oM) fun x1 =>
  if x1 = 0 then
    some ((-103), oM)
  else
    bn1 (f_X7_within a1 ((-31)) 62) fun x4 =>
    if x4 = 0 then
      some ((-102), oM)
    else
      bn1 (f_X7_within a2 ((-31)) 62) fun x7 =>
      if x7 = 0 then
        some ((-102), oM)
      else
        bn1 (f_X7_within a3 1 31) fun x10 =>
        if x10 = 0 then
          some ((-102), oM)
        else
          bn1 (f_X7_within a4 0 255) fun x13 =>
          if x13 = 0 then
            some ((-102), oM)
          else
            f_X7_arc_L63 a1 a2 a3 a4 fu 0 0 oM
def f_X7_drawOf (oM : St) (a1 : Int32) : Option (Int32 × St) :=
  bn1 (some (((1103515245 * (oM.2.1 29)) + 12345) - ((1103515245 * (oM.2.1 29)) + 12345) / 2147483648 * 2147483648)) fun y1 =>
  if ¬ ((a1 : Int32).toInt64) = 0 then
    some (((y1 / 65536) - (y1 / 65536) / ((a1 : Int32).toInt64) * ((a1 : Int32).toInt64) : Int64).toInt32, (sL oM 29 y1))
  else none
def f_X7_strew_L38 (v1 : Int32) : Nat → Int32 → Int32 → St → Option (Int32 × St)
  | 0, _, _, _ => none
  | n + 1, v3, v4, oM =>
    if v1 ≤ v4 then
      some (v3, oM)
    else
      bn2 (f_X7_drawOf oM (oM.1 2)) fun x9 oM10 =>
      bn2 (f_X7_drawOf oM10 (oM10.1 3)) fun x12 oM13 =>
      bn2 (f_X7_drawOf oM13 9) fun x15 oM16 =>
      if x15 = 8 then
        bn2 (f_X7_comesIfFree oM16 x9 x12 ((-1))) fun x23 oM24 =>
        if x23 = 0 then
          f_X7_strew_L38 v1 n (v3 + 0) (v4 + 1) oM24
        else
          f_X7_strew_L38 v1 n (v3 + 1) (v4 + 1) oM24
      else
        bn2 (f_X7_comesIfFree oM16 x9 x12 x15) fun x19 oM20 =>
        if x19 = 0 then
          f_X7_strew_L38 v1 n (v3 + 0) (v4 + 1) oM20
        else
          f_X7_strew_L38 v1 n (v3 + 1) (v4 + 1) oM20
theorem f_X7_strew_L38_s (v1 : Int32) (n : Nat) (v3 : Int32) (v4 : Int32) (oM : St) : f_X7_strew_L38 v1 (n + 1) v3 v4 oM =
    if v1 ≤ v4 then
      some (v3, oM)
    else
      bn2 (f_X7_drawOf oM (oM.1 2)) fun x9 oM10 =>
      bn2 (f_X7_drawOf oM10 (oM10.1 3)) fun x12 oM13 =>
      bn2 (f_X7_drawOf oM13 9) fun x15 oM16 =>
      if x15 = 8 then
        bn2 (f_X7_comesIfFree oM16 x9 x12 ((-1))) fun x23 oM24 =>
        if x23 = 0 then
          f_X7_strew_L38 v1 n (v3 + 0) (v4 + 1) oM24
        else
          f_X7_strew_L38 v1 n (v3 + 1) (v4 + 1) oM24
      else
        bn2 (f_X7_comesIfFree oM16 x9 x12 x15) fun x19 oM20 =>
        if x19 = 0 then
          f_X7_strew_L38 v1 n (v3 + 0) (v4 + 1) oM20
        else
          f_X7_strew_L38 v1 n (v3 + 1) (v4 + 1) oM20 := rfl
def f_X7_strew (oM : St) (a1 : Int32) (a2 : Int32) : Option (Int32 × St) :=
  bn1 (f_X7_isSheet oM) fun x1 =>
  if x1 = 0 then
    some ((-103), oM)
  else
    bn1 (f_X7_within a1 1 14) fun x4 =>
    if x4 = 0 then
      some ((-102), oM)
    else
      if 0 ≤ a2 then
        f_X7_strew_L38 a1 fu 0 0 ((sL oM 29 ((a2 : Int32).toInt64)))
      else
        some ((-102), oM)
def f_X7_ringOf (oM : St) (a1 : Int32) : Option (Int32) :=
  if (oM.1 10) = 0 then
    some ((-1))
  else
    bn1 (ag 14 (oM.2.2 15) a1) fun x2 =>
    some (x2)
def f_X7_toldNow (oM : St) (a1 : Int32) (a2 : Int32) : Option (Int32) :=
  if a2 = 0 then
    bn1 (ag 14 (oM.2.2 6) a1) fun x10 =>
    some (x10)
  else
    if a2 = 1 then
      bn1 (ag 14 (oM.2.2 7) a1) fun x8 =>
      some (x8)
    else
      if a2 = 2 then
        bn1 (ag 14 (oM.2.2 8) a1) fun x6 =>
        some (x6)
      else
        bn1 (f_X7_ringOf oM a1) fun x4 =>
        some (x4)
def f_X7_told (oM : St) (a1 : Int32) (a2 : Int32) : Option (Int32) :=
  bn1 (f_X7_isDot oM a1) fun x1 =>
  if x1 = 0 then
    some ((-101))
  else
    bn1 (f_X7_within a2 0 3) fun x4 =>
    if x4 = 0 then
      some ((-102))
    else
      bn1 (f_X7_toldNow oM a1 a2) fun x7 =>
      some (x7)
def f_X7_aboutNow (oM : St) (a1 : Int32) : Option (Int32) :=
  if a1 = 0 then
    some (oM.1 2)
  else
    if a1 = 1 then
      some (oM.1 3)
    else
      if a1 = 2 then
        some (oM.1 5)
      else
        bn1 (ag 5 (oM.2.2 9) (a1 - 3)) fun x4 =>
        some (x4)
def f_X7_about (oM : St) (a1 : Int32) : Option (Int32) :=
  bn1 (f_X7_within a1 0 7) fun x1 =>
  if x1 = 0 then
    some ((-102))
  else
    bn1 (f_X7_isSheet oM) fun x4 =>
    if x4 = 0 then
      some ((-103))
    else
      bn1 (f_X7_aboutNow oM a1) fun x7 =>
      some (x7)
def f_X7_isBound (oM : St) (a1 : Int32) (a2 : Int32) : Option (Int32) :=
  if a1 = 0 then
    bn1 (ag 5 (oM.2.2 9) 1) fun x2 =>
    bn1 (f_X7_within a2 1 x2) fun x4 =>
    if x4 = 0 ∨ x4 = 1 then
      some (x4)
    else none
  else
    if a1 = 1 then
      bn1 (ag 5 (oM.2.2 9) 0) fun x7 =>
      bn1 (f_X7_within a2 x7 22) fun x9 =>
      if x9 = 0 ∨ x9 = 1 then
        some (x9)
      else none
    else
      if a1 = 2 then
        bn1 (f_X7_within a2 0 4) fun x12 =>
        if x12 = 0 ∨ x12 = 1 then
          some (x12)
        else none
      else
        if a1 = 3 then
          bn1 (f_X7_within a2 2 14) fun x15 =>
          if x15 = 0 ∨ x15 = 1 then
            some (x15)
          else none
        else
          if a1 = 4 then
            bn1 (f_X7_within a2 1 8) fun x18 =>
            if x18 = 0 ∨ x18 = 1 then
              some (x18)
            else none
          else
            some (0)
def f_X7_bound (oM : St) (a1 : Int32) (a2 : Int32) : Option (Int32 × St) :=
  bn1 (f_X7_isSheet oM) fun x1 =>
  if x1 = 0 then
    some ((-103), oM)
  else
    bn1 (f_X7_isBound oM a1 a2) fun x4 =>
    if x4 = 0 then
      some ((-102), oM)
    else
      bn1 (ag 5 (oM.2.2 9) a1) fun x7 =>
      bn1 (aw 5 oM 9 a1 a2) fun oM10 =>
      some (x7, (sI oM10 10 0))
def f_X7_layMiddle (oM : St) (a1 : Int32) (a2 : Int32) (a3 : Int32) : Option (Int32 × St) :=
  bn1 (ag 14 (oM.2.2 6) a2) fun x1 =>
  bn1 (ag 14 (oM.2.2 6) a1) fun x3 =>
  bn1 (ag 14 (oM.2.2 7) a2) fun x5 =>
  bn1 (ag 14 (oM.2.2 7) a1) fun x7 =>
  bn1 (ag 14 (oM.2.2 6) a3) fun x9 =>
  bn1 (ag 14 (oM.2.2 6) a1) fun x11 =>
  bn1 (ag 14 (oM.2.2 7) a3) fun x13 =>
  bn1 (ag 14 (oM.2.2 7) a1) fun x15 =>
  bn1 (some (2 * ((((x1 - x3 : Int32).toInt64) * ((x13 - x15 : Int32).toInt64)) - (((x5 - x7 : Int32).toInt64) * ((x9 - x11 : Int32).toInt64))))) fun y17 =>
  bn1 (some ((((x1 - x3 : Int32).toInt64) * ((x1 - x3 : Int32).toInt64)) + (((x5 - x7 : Int32).toInt64) * ((x5 - x7 : Int32).toInt64)))) fun y19 =>
  bn1 (some ((((x9 - x11 : Int32).toInt64) * ((x9 - x11 : Int32).toInt64)) + (((x13 - x15 : Int32).toInt64) * ((x13 - x15 : Int32).toInt64)))) fun y21 =>
  if 0 ≤ (lg_cmp y17 0) then
    if 0 ≤ (lg_cmp y17 0) then
      bn1 (ag 14 (oM.2.2 6) a1) fun x25 =>
      bn1 (some ((1 * ((((x13 - x15 : Int32).toInt64) * y19) - (((x5 - x7 : Int32).toInt64) * y21))) + (((x25 : Int32).toInt64) * y17))) fun y27 =>
      bn1 (ag 14 (oM.2.2 7) a1) fun x29 =>
      bn1 (some ((1 * ((((x1 - x3 : Int32).toInt64) * y21) - (((x9 - x11 : Int32).toInt64) * y19))) + (((x29 : Int32).toInt64) * y17))) fun y31 =>
      if (lg_cmp y17 0) = 0 then
        some (0, (sL (sL (sL oM 30 y17) 31 y27) 32 y31))
      else
        some (1, (sL (sL (sL oM 30 y17) 31 y27) 32 y31))
    else
      bn1 (ag 14 (oM.2.2 6) a1) fun x34 =>
      bn1 (some ((((-1)) * ((((x13 - x15 : Int32).toInt64) * y19) - (((x5 - x7 : Int32).toInt64) * y21))) + (((x34 : Int32).toInt64) * y17))) fun y36 =>
      bn1 (ag 14 (oM.2.2 7) a1) fun x38 =>
      bn1 (some ((((-1)) * ((((x1 - x3 : Int32).toInt64) * y21) - (((x9 - x11 : Int32).toInt64) * y19))) + (((x38 : Int32).toInt64) * y17))) fun y40 =>
      if (lg_cmp y17 0) = 0 then
        some (0, (sL (sL (sL oM 30 y17) 31 y36) 32 y40))
      else
        some (1, (sL (sL (sL oM 30 y17) 31 y36) 32 y40))
  else
    if 0 ≤ (lg_cmp y17 0) then
      bn1 (ag 14 (oM.2.2 6) a1) fun x44 =>
      bn1 (some ((1 * ((((x13 - x15 : Int32).toInt64) * y19) - (((x5 - x7 : Int32).toInt64) * y21))) + (((x44 : Int32).toInt64) * (-y17)))) fun y46 =>
      bn1 (ag 14 (oM.2.2 7) a1) fun x48 =>
      bn1 (some ((1 * ((((x1 - x3 : Int32).toInt64) * y21) - (((x9 - x11 : Int32).toInt64) * y19))) + (((x48 : Int32).toInt64) * (-y17)))) fun y50 =>
      if (lg_cmp y17 0) = 0 then
        some (0, (sL (sL (sL oM 30 (-y17)) 31 y46) 32 y50))
      else
        some (1, (sL (sL (sL oM 30 (-y17)) 31 y46) 32 y50))
    else
      bn1 (ag 14 (oM.2.2 6) a1) fun x53 =>
      bn1 (some ((((-1)) * ((((x13 - x15 : Int32).toInt64) * y19) - (((x5 - x7 : Int32).toInt64) * y21))) + (((x53 : Int32).toInt64) * (-y17)))) fun y55 =>
      bn1 (ag 14 (oM.2.2 7) a1) fun x57 =>
      bn1 (some ((((-1)) * ((((x1 - x3 : Int32).toInt64) * y21) - (((x9 - x11 : Int32).toInt64) * y19))) + (((x57 : Int32).toInt64) * (-y17)))) fun y59 =>
      if (lg_cmp y17 0) = 0 then
        some (0, (sL (sL (sL oM 30 (-y17)) 31 y55) 32 y59))
      else
        some (1, (sL (sL (sL oM 30 (-y17)) 31 y55) 32 y59))
def f_X7_floor (a0 : Int64) (a2 : Int64) : Option (Int32) :=
  if ¬ a2 = 0 then
    if (lg_cmp ((a0 / a2) * a2) a0) ≤ 0 then
      some ((a0 / a2 : Int64).toInt32)
    else
      some (((a0 / a2) - 1 : Int64).toInt32)
  else none
def f_X7_agrees (oM : St) (a1 : Int64) (a3 : Int64) (a5 : Int64) (a7 : Int32) : Option (Int32) :=
  bn1 (ag 14 (oM.2.2 8) a7) fun x1 =>
  if x1 = ((-1)) then
    some (1)
  else
    bn1 (ag 14 (oM.2.2 6) a7) fun x4 =>
    bn1 (some (a1 - (((x4 : Int32).toInt64) * a5))) fun y6 =>
    bn1 (ag 14 (oM.2.2 7) a7) fun x8 =>
    bn1 (some (a3 - (((x8 : Int32).toInt64) * a5))) fun y10 =>
    bn1 (ag 14 (oM.2.2 8) a7) fun x12 =>
    bn1 (f_X7_turnX x12) fun x14 =>
    bn1 (ag 14 (oM.2.2 8) a7) fun x16 =>
    bn1 (f_X7_turnY x16) fun x18 =>
    bn1 (some ((y6 * ((x14 : Int32).toInt64)) + (y10 * ((x18 : Int32).toInt64)))) fun y20 =>
    bn1 (some ((y6 * ((x18 : Int32).toInt64)) - (y10 * ((x14 : Int32).toInt64)))) fun y22 =>
    if (lg_cmp y20 0) ≤ 0 then
      some (0)
    else
      if 0 < (lg_cmp y22 y20) then
        some (0)
      else
        if 0 < (lg_cmp (-y22) y20) then
          some (0)
        else
          some (1)
def f_X7_agreeing (oM : St) (a1 : Int32) (a2 : Int32) (a3 : Int32) : Option (Int32) :=
  bn1 (f_X7_agrees oM (oM.2.1 31) (oM.2.1 32) (oM.2.1 30) a1) fun x1 =>
  if x1 = 0 then
    bn1 (f_X7_agrees oM (oM.2.1 31) (oM.2.1 32) (oM.2.1 30) a2) fun x4 =>
    if x4 = 0 then
      bn1 (f_X7_agrees oM (oM.2.1 31) (oM.2.1 32) (oM.2.1 30) a3) fun x7 =>
      if x7 = 0 then
        some ((0 + 0) + 0)
      else
        some ((0 + 0) + 1)
    else
      bn1 (f_X7_agrees oM (oM.2.1 31) (oM.2.1 32) (oM.2.1 30) a3) fun x10 =>
      if x10 = 0 then
        some ((0 + 1) + 0)
      else
        some ((0 + 1) + 1)
  else
    bn1 (f_X7_agrees oM (oM.2.1 31) (oM.2.1 32) (oM.2.1 30) a2) fun x13 =>
    if x13 = 0 then
      bn1 (f_X7_agrees oM (oM.2.1 31) (oM.2.1 32) (oM.2.1 30) a3) fun x16 =>
      if x16 = 0 then
        some ((1 + 0) + 0)
      else
        some ((1 + 0) + 1)
    else
      bn1 (f_X7_agrees oM (oM.2.1 31) (oM.2.1 32) (oM.2.1 30) a3) fun x19 =>
      if x19 = 0 then
        some ((1 + 1) + 0)
      else
        some ((1 + 1) + 1)
def f_X7_radius_L56 (oM : St) (v6 : Int64) : Nat → Int64 → Int64 → Option (Int32)
  | 0, _, _ => none
  | n + 1, v8, v10 =>
    if (lg_cmp (v10 - v8) 1) ≤ 0 then
      some ((v8 : Int64).toInt32)
    else
      if 0 < (lg_cmp (((((v8 + v10) / 2) * ((v8 + v10) / 2)) * (oM.2.1 30)) * (oM.2.1 30)) v6) then
        f_X7_radius_L56 oM v6 n v8 ((v8 + v10) / 2)
      else
        f_X7_radius_L56 oM v6 n ((v8 + v10) / 2) v10
theorem f_X7_radius_L56_s (oM : St) (v6 : Int64) (n : Nat) (v8 : Int64) (v10 : Int64) : f_X7_radius_L56 oM v6 (n + 1) v8 v10 =
    if (lg_cmp (v10 - v8) 1) ≤ 0 then
      some ((v8 : Int64).toInt32)
    else
      if 0 < (lg_cmp (((((v8 + v10) / 2) * ((v8 + v10) / 2)) * (oM.2.1 30)) * (oM.2.1 30)) v6) then
        f_X7_radius_L56 oM v6 n v8 ((v8 + v10) / 2)
      else
        f_X7_radius_L56 oM v6 n ((v8 + v10) / 2) v10 := rfl
def f_X7_radius (oM : St) (a1 : Int32) : Option (Int32) :=
  bn1 (ag 14 (oM.2.2 6) a1) fun x1 =>
  bn1 (some ((oM.2.1 31) - (((x1 : Int32).toInt64) * (oM.2.1 30)))) fun y3 =>
  bn1 (ag 14 (oM.2.2 7) a1) fun x5 =>
  bn1 (some ((oM.2.1 32) - (((x5 : Int32).toInt64) * (oM.2.1 30)))) fun y7 =>
  f_X7_radius_L56 oM ((y3 * y3) + (y7 * y7)) fu 0 100000
def f_X7_isVote (oM : St) (a1 : Int32) (a2 : Int32) (a3 : Int32) : Option (Int32 × St) :=
  bn1 (f_X7_floor (oM.2.1 31) (oM.2.1 30)) fun x1 =>
  bn1 (f_X7_floor (oM.2.1 32) (oM.2.1 30)) fun x3 =>
  bn1 (f_X7_isOn ((sI (sI oM 33 x1) 34 x3)) x1 x3) fun x5 =>
  if x5 = 0 then
    some (0, (sI (sI oM 33 x1) 34 x3))
  else
    bn1 (f_X7_agreeing ((sI (sI oM 33 x1) 34 x3)) a1 a2 a3) fun x8 =>
    if 3 ≤ x8 then
      bn1 (f_X7_radius ((sI (sI oM 33 x1) 34 x3)) a1) fun x11 =>
      bn1 (ag 5 (oM.2.2 9) 0) fun x13 =>
      bn1 (ag 5 (oM.2.2 9) 1) fun x15 =>
      bn1 (f_X7_within x11 x13 x15) fun x17 =>
      if x17 = 0 ∨ x17 = 1 then
        some (x17, (sI (sI (sI oM 33 x1) 34 x3) 35 x11))
      else none
    else
      some (0, (sI (sI oM 33 x1) 34 x3))
def f_X7_circleNow (oM : St) (a1 : Int32) (a2 : Int32) (a3 : Int32) (a4 : Int32) : Option (Int32 × St) :=
  if a4 = 0 then
    bn2 (f_X7_isVote oM a1 a2 a3) fun x2 oM3 =>
    if x2 = 0 then
      some (0, oM3)
    else
      some (1, oM3)
  else
    if a4 = 1 then
      bn1 (f_X7_floor (oM.2.1 31) (oM.2.1 30)) fun x7 =>
      some (x7, oM)
    else
      if a4 = 2 then
        bn1 (f_X7_floor (oM.2.1 32) (oM.2.1 30)) fun x10 =>
        some (x10, oM)
      else
        if a4 = 3 then
          bn1 (f_X7_radius oM a1) fun x13 =>
          some (x13, oM)
        else
          bn1 (f_X7_agreeing oM a1 a2 a3) fun x15 =>
          some (x15, oM)
def f_X7_circle (oM : St) (a1 : Int32) (a2 : Int32) (a3 : Int32) (a4 : Int32) : Option (Int32 × St) :=
  bn1 (f_X7_isDot oM a1) fun x1 =>
  if x1 = 0 then
    some ((-101), oM)
  else
    bn1 (f_X7_isDot oM a2) fun x4 =>
    if x4 = 0 then
      some ((-101), oM)
    else
      bn1 (f_X7_isDot oM a3) fun x7 =>
      if x7 = 0 then
        some ((-101), oM)
      else
        if a1 = a2 then
          some ((-101), oM)
        else
          if a2 = a3 then
            some ((-101), oM)
          else
            if a1 = a3 then
              some ((-101), oM)
            else
              bn1 (f_X7_within a4 0 4) fun x13 =>
              if x13 = 0 then
                some ((-102), oM)
              else
                bn2 (f_X7_layMiddle oM a1 a2 a3) fun x16 oM17 =>
                if x16 = 0 then
                  some ((-103), oM17)
                else
                  bn2 (f_X7_circleNow oM17 a1 a2 a3 a4) fun x20 oM21 =>
                  some (x20, oM21)
def f_X7_vote_L2 (oM : St) (K : Int32 → Option (St)) : Nat → Int32 → Option (St)
  | 0, _ => none
  | n + 1, v1 =>
    if (oM.1 36) ≤ v1 then
      K v1
    else
      bn1 (ag 364 (oM.2.2 39) v1) fun x2 =>
      if x2 = (oM.1 33) then
        bn1 (ag 364 (oM.2.2 40) v1) fun x5 =>
        if x5 = (oM.1 34) then
          bn1 (ag 364 (oM.2.2 41) v1) fun x8 =>
          if x8 = (oM.1 35) then
            K v1
          else
            f_X7_vote_L2 oM K n (v1 + 1)
        else
          f_X7_vote_L2 oM K n (v1 + 1)
      else
        f_X7_vote_L2 oM K n (v1 + 1)
theorem f_X7_vote_L2_s (oM : St) (K : Int32 → Option (St)) (n : Nat) (v1 : Int32) : f_X7_vote_L2 oM K (n + 1) v1 =
    if (oM.1 36) ≤ v1 then
      K v1
    else
      bn1 (ag 364 (oM.2.2 39) v1) fun x2 =>
      if x2 = (oM.1 33) then
        bn1 (ag 364 (oM.2.2 40) v1) fun x5 =>
        if x5 = (oM.1 34) then
          bn1 (ag 364 (oM.2.2 41) v1) fun x8 =>
          if x8 = (oM.1 35) then
            K v1
          else
            f_X7_vote_L2 oM K n (v1 + 1)
        else
          f_X7_vote_L2 oM K n (v1 + 1)
      else
        f_X7_vote_L2 oM K n (v1 + 1) := rfl
def f_X7_vote (oM : St) : Option (St) :=
  f_X7_vote_L2 oM (fun (v11 : Int32) =>
      if v11 = (oM.1 36) then
        bn1 (aw 364 oM 39 v11 (oM.1 33)) fun oM18 =>
        bn1 (aw 364 oM18 40 v11 (oM18.1 34)) fun oM20 =>
        bn1 (aw 364 oM20 41 v11 (oM20.1 35)) fun oM22 =>
        bn1 (aw 364 oM22 42 v11 0) fun oM24 =>
        bn1 (ag 364 (oM24.2.2 42) v11) fun x25 =>
        bn1 (aw 364 (sI oM24 36 ((oM24.1 36) + 1)) 42 v11 (x25 + 1)) fun oM28 =>
        some (oM28)
      else
        bn1 (ag 364 (oM.2.2 42) v11) fun x13 =>
        bn1 (aw 364 oM 42 v11 (x13 + 1)) fun oM16 =>
        some (oM16)
    ) fu 0
def f_X7_isAhead (oM : St) (a1 : Int32) (a2 : Int32) : Option (Int32) :=
  bn1 (ag 364 (oM.2.2 42) a1) fun x1 =>
  bn1 (ag 364 (oM.2.2 42) a2) fun x3 =>
  if x1 = x3 then
    bn1 (ag 364 (oM.2.2 41) a1) fun x6 =>
    bn1 (ag 364 (oM.2.2 41) a2) fun x8 =>
    if x6 = x8 then
      bn1 (ag 364 (oM.2.2 40) a1) fun x11 =>
      bn1 (ag 364 (oM.2.2 40) a2) fun x13 =>
      if x11 < x13 then
        some (1)
      else
        bn1 (ag 364 (oM.2.2 40) a1) fun x16 =>
        bn1 (ag 364 (oM.2.2 40) a2) fun x18 =>
        if x16 = x18 then
          bn1 (ag 364 (oM.2.2 39) a1) fun x21 =>
          bn1 (ag 364 (oM.2.2 39) a2) fun x23 =>
          if x23 ≤ x21 then
            some (0)
          else
            some (1)
        else
          some (0)
    else
      bn1 (ag 364 (oM.2.2 41) a1) fun x26 =>
      bn1 (ag 364 (oM.2.2 41) a2) fun x28 =>
      if x28 ≤ x26 then
        some (0)
      else
        some (1)
  else
    bn1 (ag 364 (oM.2.2 42) a1) fun x31 =>
    bn1 (ag 364 (oM.2.2 42) a2) fun x33 =>
    if x31 ≤ x33 then
      some (0)
    else
      some (1)
def f_X7_swap (f : (Nat → Int32)) (a1 : Int32) (a2 : Int32) : Option ((Nat → Int32)) :=
  bn1 (ag 364 f a1) fun x1 =>
  bn1 (ag 364 f a2) fun x3 =>
  bn1 (au 364 f a1 x3) fun f6 =>
  bn1 (au 364 f6 a2 x1) fun f8 =>
  some (f8)
def f_X7_swapSpots (oM : St) (a1 : Int32) (a2 : Int32) : Option (St) :=
  bn1 (f_X7_swap (oM.2.2 39) a1 a2) fun f1 =>
  bn1 (f_X7_swap (oM.2.2 40) a1 a2) fun f3 =>
  bn1 (f_X7_swap (oM.2.2 41) a1 a2) fun f5 =>
  bn1 (f_X7_swap (oM.2.2 42) a1 a2) fun f7 =>
  some ((sR (sR (sR (sR oM 39 f1) 40 f3) 41 f5) 42 f7))
def f_X7_layVote (oM : St) (a1 : Int32) (a2 : Int32) (a3 : Int32) : Option (St) :=
  bn2 (f_X7_layMiddle oM a1 a2 a3) fun x1 oM2 =>
  if x1 = 0 then
    some (oM2)
  else
    bn2 (f_X7_isVote ((sI oM2 38 ((oM2.1 38) + 1))) a1 a2 a3) fun x5 oM6 =>
    if x5 = 0 then
      some (oM6)
    else
      bn1 (f_X7_vote ((sI oM6 37 ((oM6.1 37) + 1)))) fun oM9 =>
      some (oM9)
def f_X7_laySpots_L41 (v1 : Int32) (v2 : Int32) (K : St → Option (St)) : Nat → Int32 → St → Option (St)
  | 0, _, _ => none
  | n + 1, v3, oM =>
    if (oM.1 5) ≤ v3 then
      K oM
    else
      bn1 (f_X7_layVote oM v1 v2 v3) fun oM4 =>
      f_X7_laySpots_L41 v1 v2 K n (v3 + 1) oM4
theorem f_X7_laySpots_L41_s (v1 : Int32) (v2 : Int32) (K : St → Option (St)) (n : Nat) (v3 : Int32) (oM : St) : f_X7_laySpots_L41 v1 v2 K (n + 1) v3 oM =
    if (oM.1 5) ≤ v3 then
      K oM
    else
      bn1 (f_X7_layVote oM v1 v2 v3) fun oM4 =>
      f_X7_laySpots_L41 v1 v2 K n (v3 + 1) oM4 := rfl
def f_X7_laySpots_L29 (v1 : Int32) (K : St → Option (St)) : Nat → Int32 → St → Option (St)
  | 0, _, _ => none
  | n + 1, v2, oM =>
    if (oM.1 5) ≤ v2 then
      K oM
    else
      f_X7_laySpots_L41 v1 v2 (fun (oM6 : St) =>
          f_X7_laySpots_L29 v1 K n (v2 + 1) oM6
        ) fu (v2 + 1) oM
theorem f_X7_laySpots_L29_s (v1 : Int32) (K : St → Option (St)) (n : Nat) (v2 : Int32) (oM : St) : f_X7_laySpots_L29 v1 K (n + 1) v2 oM =
    if (oM.1 5) ≤ v2 then
      K oM
    else
      f_X7_laySpots_L41 v1 v2 (fun (oM6 : St) =>
          f_X7_laySpots_L29 v1 K n (v2 + 1) oM6
        ) fu (v2 + 1) oM := rfl
def f_X7_laySpots_L17 (K : St → Option (St)) : Nat → Int32 → St → Option (St)
  | 0, _, _ => none
  | n + 1, v1, oM =>
    if (oM.1 5) ≤ v1 then
      K oM
    else
      f_X7_laySpots_L29 v1 (fun (oM7 : St) =>
          f_X7_laySpots_L17 K n (v1 + 1) oM7
        ) fu (v1 + 1) oM
theorem f_X7_laySpots_L17_s (K : St → Option (St)) (n : Nat) (v1 : Int32) (oM : St) : f_X7_laySpots_L17 K (n + 1) v1 oM =
    if (oM.1 5) ≤ v1 then
      K oM
    else
      f_X7_laySpots_L29 v1 (fun (oM7 : St) =>
          f_X7_laySpots_L17 K n (v1 + 1) oM7
        ) fu (v1 + 1) oM := rfl
def f_X7_laySpots_L86 (v1 : Int32) (K : St → Option (St)) : Nat → Int32 → St → Option (St)
  | 0, _, _ => none
  | n + 1, v2, oM =>
    if v2 ≤ 0 then
      K oM
    else
      bn1 (f_X7_isAhead oM v2 (v2 - 1)) fun x11 =>
      if x11 = 0 then
        K oM
      else
        bn1 (f_X7_swapSpots oM v2 (v2 - 1)) fun oM14 =>
        f_X7_laySpots_L86 v1 K n (v2 + (-1)) oM14
theorem f_X7_laySpots_L86_s (v1 : Int32) (K : St → Option (St)) (n : Nat) (v2 : Int32) (oM : St) : f_X7_laySpots_L86 v1 K (n + 1) v2 oM =
    if v2 ≤ 0 then
      K oM
    else
      bn1 (f_X7_isAhead oM v2 (v2 - 1)) fun x11 =>
      if x11 = 0 then
        K oM
      else
        bn1 (f_X7_swapSpots oM v2 (v2 - 1)) fun oM14 =>
        f_X7_laySpots_L86 v1 K n (v2 + (-1)) oM14 := rfl
def f_X7_laySpots_L76 : Nat → Int32 → St → Option (St)
  | 0, _, _ => none
  | n + 1, v1, oM =>
    if (oM.1 36) ≤ v1 then
      some (oM)
    else
      f_X7_laySpots_L86 v1 (fun (oM16 : St) =>
          f_X7_laySpots_L76  n (v1 + 1) oM16
        ) fu v1 oM
theorem f_X7_laySpots_L76_s (n : Nat) (v1 : Int32) (oM : St) : f_X7_laySpots_L76  (n + 1) v1 oM =
    if (oM.1 36) ≤ v1 then
      some (oM)
    else
      f_X7_laySpots_L86 v1 (fun (oM16 : St) =>
          f_X7_laySpots_L76  n (v1 + 1) oM16
        ) fu v1 oM := rfl
def f_X7_laySpots (oM : St) : Option (St) :=
  f_X7_laySpots_L17  (fun (oM8 : St) =>
      f_X7_laySpots_L76 fu 1 oM8
    ) fu 0 ((sI (sI (sI oM 36 0) 37 0) 38 0))
def f_X7_votes_L20 (oM : St) (v1 : Int32) (v2 : Int32) (v3 : Int32) : Nat → Int32 → Int32 → Option (Int32 × St)
  | 0, _, _ => none
  | n + 1, v4, v5 =>
    if (oM.1 36) ≤ v5 then
      some (v4, oM)
    else
      bn1 (ag 364 (oM.2.2 39) v5) fun x7 =>
      if x7 = v1 then
        bn1 (ag 364 (oM.2.2 40) v5) fun x10 =>
        if x10 = v2 then
          bn1 (ag 364 (oM.2.2 41) v5) fun x13 =>
          if x13 = v3 then
            bn1 (ag 364 (oM.2.2 42) v5) fun x16 =>
            f_X7_votes_L20 oM v1 v2 v3 n x16 (v5 + 1)
          else
            f_X7_votes_L20 oM v1 v2 v3 n v4 (v5 + 1)
        else
          f_X7_votes_L20 oM v1 v2 v3 n v4 (v5 + 1)
      else
        f_X7_votes_L20 oM v1 v2 v3 n v4 (v5 + 1)
theorem f_X7_votes_L20_s (oM : St) (v1 : Int32) (v2 : Int32) (v3 : Int32) (n : Nat) (v4 : Int32) (v5 : Int32) : f_X7_votes_L20 oM v1 v2 v3 (n + 1) v4 v5 =
    if (oM.1 36) ≤ v5 then
      some (v4, oM)
    else
      bn1 (ag 364 (oM.2.2 39) v5) fun x7 =>
      if x7 = v1 then
        bn1 (ag 364 (oM.2.2 40) v5) fun x10 =>
        if x10 = v2 then
          bn1 (ag 364 (oM.2.2 41) v5) fun x13 =>
          if x13 = v3 then
            bn1 (ag 364 (oM.2.2 42) v5) fun x16 =>
            f_X7_votes_L20 oM v1 v2 v3 n x16 (v5 + 1)
          else
            f_X7_votes_L20 oM v1 v2 v3 n v4 (v5 + 1)
        else
          f_X7_votes_L20 oM v1 v2 v3 n v4 (v5 + 1)
      else
        f_X7_votes_L20 oM v1 v2 v3 n v4 (v5 + 1) := rfl
def f_X7_votes (oM : St) (a1 : Int32) (a2 : Int32) (a3 : Int32) : Option (Int32 × St) :=
  bn1 (f_X7_isSheet oM) fun x1 =>
  if x1 = 0 then
    some ((-103), oM)
  else
    bn1 (f_X7_laySpots oM) fun oM4 =>
    f_X7_votes_L20 oM4 a1 a2 a3 fu 0 0
def f_X7_farOf (oM : St) (a1 : Int32) (a2 : Int32) (a3 : Int32) : Option (Int32) :=
  bn1 (ag 14 (oM.2.2 6) a3) fun x1 =>
  bn1 (ag 14 (oM.2.2 7) a3) fun x3 =>
  some (((((2 * x1) - (2 * a1)) - 1) * (((2 * x1) - (2 * a1)) - 1)) + ((((2 * x3) - (2 * a2)) - 1) * (((2 * x3) - (2 * a2)) - 1)))
def f_X7_supports (oM : St) (a1 : Int32) (a2 : Int32) (a3 : Int32) (a4 : Int32) : Option (Int32) :=
  bn1 (f_X7_farOf oM a1 a2 a4) fun x1 =>
  bn1 (ag 5 (oM.2.2 9) 2) fun x3 =>
  bn1 (ag 5 (oM.2.2 9) 2) fun x5 =>
  if ((2 * a3) - x3) ≤ 0 then
    if ((((2 * a3) + 2) + x5) * (((2 * a3) + 2) + x5)) < x1 then
      some (0)
    else
      bn1 (f_X7_agrees oM ((2 * ((a1 : Int32).toInt64)) + 1) ((2 * ((a2 : Int32).toInt64)) + 1) 2 a4) fun x9 =>
      if x9 = 0 then
        some (0)
      else
        some (1)
  else
    if x1 < (((2 * a3) - x3) * ((2 * a3) - x3)) then
      some (0)
    else
      if ((((2 * a3) + 2) + x5) * (((2 * a3) + 2) + x5)) < x1 then
        some (0)
      else
        bn1 (f_X7_agrees oM ((2 * ((a1 : Int32).toInt64)) + 1) ((2 * ((a2 : Int32).toInt64)) + 1) 2 a4) fun x14 =>
        if x14 = 0 then
          some (0)
        else
          some (1)
def f_X7_supporters_L6 (oM : St) (v1 : Int32) (v2 : Int32) (v3 : Int32) : Nat → Int32 → Int32 → Option (Int32)
  | 0, _, _ => none
  | n + 1, v4, v5 =>
    if (oM.1 5) ≤ v5 then
      some (v4)
    else
      bn1 (f_X7_supports oM v1 v2 v3 v5) fun x2 =>
      if x2 = 0 then
        f_X7_supporters_L6 oM v1 v2 v3 n (v4 ||| 0) (v5 + 1)
      else
        bn1 (some (v4 ||| ((1 : Int32) <<< (v5 &&& 31)))) fun y5 =>
        f_X7_supporters_L6 oM v1 v2 v3 n y5 (v5 + 1)
theorem f_X7_supporters_L6_s (oM : St) (v1 : Int32) (v2 : Int32) (v3 : Int32) (n : Nat) (v4 : Int32) (v5 : Int32) : f_X7_supporters_L6 oM v1 v2 v3 (n + 1) v4 v5 =
    if (oM.1 5) ≤ v5 then
      some (v4)
    else
      bn1 (f_X7_supports oM v1 v2 v3 v5) fun x2 =>
      if x2 = 0 then
        f_X7_supporters_L6 oM v1 v2 v3 n (v4 ||| 0) (v5 + 1)
      else
        bn1 (some (v4 ||| ((1 : Int32) <<< (v5 &&& 31)))) fun y5 =>
        f_X7_supporters_L6 oM v1 v2 v3 n y5 (v5 + 1) := rfl
def f_X7_supporters (oM : St) (a1 : Int32) (a2 : Int32) (a3 : Int32) : Option (Int32) :=
  f_X7_supporters_L6 oM a1 a2 a3 fu 0 0
def f_X7_octantOf (oM : St) (a1 : Int32) (a2 : Int32) (a3 : Int32) : Option (Int32) :=
  bn1 (ag 14 (oM.2.2 6) a3) fun x1 =>
  bn1 (ag 14 (oM.2.2 7) a3) fun x3 =>
  if (((2 * x3) - (2 * a2)) - 1) ≤ 0 then
    if 0 ≤ (((2 * x1) - (2 * a1)) - 1) then
      bn1 (f_X7_abs (((2 * x3) - (2 * a2)) - 1)) fun x7 =>
      bn1 (f_X7_abs (((2 * x1) - (2 * a1)) - 1)) fun x9 =>
      if x7 ≤ x9 then
        some (6 + 0)
      else
        some (6 + 1)
    else
      bn1 (f_X7_abs (((2 * x3) - (2 * a2)) - 1)) fun x12 =>
      bn1 (f_X7_abs (((2 * x1) - (2 * a1)) - 1)) fun x14 =>
      if x12 ≤ x14 then
        some (4 + 0)
      else
        some (4 + 1)
  else
    if (((2 * x1) - (2 * a1)) - 1) ≤ 0 then
      bn1 (f_X7_abs (((2 * x3) - (2 * a2)) - 1)) fun x18 =>
      bn1 (f_X7_abs (((2 * x1) - (2 * a1)) - 1)) fun x20 =>
      if x18 ≤ x20 then
        some (2 + 0)
      else
        some (2 + 1)
    else
      bn1 (f_X7_abs (((2 * x3) - (2 * a2)) - 1)) fun x23 =>
      bn1 (f_X7_abs (((2 * x1) - (2 * a1)) - 1)) fun x25 =>
      if x23 ≤ x25 then
        some (0 + 0)
      else
        some (0 + 1)
def f_X7_spanOf_L6 (oM : St) (v1 : Int32) (v2 : Int32) (v3 : Int32) : Nat → Int32 → Int32 → Option (Int32)
  | 0, _, _ => none
  | n + 1, v4, v5 =>
    if (oM.1 5) ≤ v5 then
      bn1 (f_X7_size v4) fun x2 =>
      some (x2)
    else
      if ((v3 >>> (v5 &&& 31)) &&& 1) = 1 then
        bn1 (f_X7_octantOf oM v1 v2 v5) fun x5 =>
        bn1 (some (v4 ||| ((1 : Int32) <<< (x5 &&& 31)))) fun y7 =>
        f_X7_spanOf_L6 oM v1 v2 v3 n y7 (v5 + 1)
      else
        f_X7_spanOf_L6 oM v1 v2 v3 n (v4 ||| 0) (v5 + 1)
theorem f_X7_spanOf_L6_s (oM : St) (v1 : Int32) (v2 : Int32) (v3 : Int32) (n : Nat) (v4 : Int32) (v5 : Int32) : f_X7_spanOf_L6 oM v1 v2 v3 (n + 1) v4 v5 =
    if (oM.1 5) ≤ v5 then
      bn1 (f_X7_size v4) fun x2 =>
      some (x2)
    else
      if ((v3 >>> (v5 &&& 31)) &&& 1) = 1 then
        bn1 (f_X7_octantOf oM v1 v2 v5) fun x5 =>
        bn1 (some (v4 ||| ((1 : Int32) <<< (x5 &&& 31)))) fun y7 =>
        f_X7_spanOf_L6 oM v1 v2 v3 n y7 (v5 + 1)
      else
        f_X7_spanOf_L6 oM v1 v2 v3 n (v4 ||| 0) (v5 + 1) := rfl
def f_X7_spanOf (oM : St) (a1 : Int32) (a2 : Int32) (a3 : Int32) : Option (Int32) :=
  f_X7_spanOf_L6 oM a1 a2 a3 fu 0 0
def f_X7_spotNow (oM : St) (a1 : Int32) (a2 : Int32) : Option (Int32) :=
  bn1 (ag 364 (oM.2.2 39) a1) fun x1 =>
  bn1 (ag 364 (oM.2.2 40) a1) fun x3 =>
  bn1 (ag 364 (oM.2.2 41) a1) fun x5 =>
  bn1 (f_X7_supporters oM x1 x3 x5) fun x7 =>
  if a2 = 0 then
    bn1 (ag 364 (oM.2.2 39) a1) fun x10 =>
    some (x10)
  else
    if a2 = 1 then
      bn1 (ag 364 (oM.2.2 40) a1) fun x13 =>
      some (x13)
    else
      if a2 = 2 then
        bn1 (ag 364 (oM.2.2 41) a1) fun x16 =>
        some (x16)
      else
        if a2 = 3 then
          bn1 (ag 364 (oM.2.2 42) a1) fun x19 =>
          some (x19)
        else
          if a2 = 4 then
            bn1 (f_X7_size x7) fun x22 =>
            some (x22)
          else
            if a2 = 5 then
              bn1 (ag 364 (oM.2.2 39) a1) fun x25 =>
              bn1 (ag 364 (oM.2.2 40) a1) fun x27 =>
              bn1 (f_X7_spanOf oM x25 x27 x7) fun x29 =>
              some (x29)
            else
              some (x7)
def f_X7_spot (oM : St) (a1 : Int32) (a2 : Int32) : Option (Int32 × St) :=
  bn1 (f_X7_isSheet oM) fun x1 =>
  if x1 = 0 then
    some ((-101), oM)
  else
    bn1 (f_X7_laySpots oM) fun oM4 =>
    bn1 (f_X7_within a1 0 ((oM4.1 36) - 1)) fun x6 =>
    if x6 = 0 then
      some ((-101), oM4)
    else
      bn1 (f_X7_within a2 0 6) fun x9 =>
      if x9 = 0 then
        some ((-102), oM4)
      else
        bn1 (f_X7_spotNow oM4 a1 a2) fun x12 =>
        some (x12, oM4)
def f_X7_bestMany_L4 (oM : St) : Nat → Int32 → Int32 → Option (Int32)
  | 0, _, _ => none
  | n + 1, v1, v2 =>
    if (oM.1 36) ≤ v2 then
      some (v1)
    else
      bn1 (ag 364 (oM.2.2 42) v2) fun x2 =>
      bn1 (ag 364 (oM.2.2 42) 0) fun x4 =>
      if x2 = x4 then
        f_X7_bestMany_L4 oM n (v1 + 1) (v2 + 1)
      else
        f_X7_bestMany_L4 oM n (v1 + 0) (v2 + 1)
theorem f_X7_bestMany_L4_s (oM : St) (n : Nat) (v1 : Int32) (v2 : Int32) : f_X7_bestMany_L4 oM (n + 1) v1 v2 =
    if (oM.1 36) ≤ v2 then
      some (v1)
    else
      bn1 (ag 364 (oM.2.2 42) v2) fun x2 =>
      bn1 (ag 364 (oM.2.2 42) 0) fun x4 =>
      if x2 = x4 then
        f_X7_bestMany_L4 oM n (v1 + 1) (v2 + 1)
      else
        f_X7_bestMany_L4 oM n (v1 + 0) (v2 + 1) := rfl
def f_X7_bestMany (oM : St) : Option (Int32) :=
  f_X7_bestMany_L4 oM fu 0 0
def f_X7_spotsNow (oM : St) (a1 : Int32) : Option (Int32 × St) :=
  bn1 (f_X7_laySpots oM) fun oM1 =>
  if a1 = 0 then
    some (oM1.1 36, oM1)
  else
    if a1 = 1 then
      some (oM1.1 37, oM1)
    else
      if a1 = 2 then
        some (oM1.1 38, oM1)
      else
        bn1 (f_X7_bestMany oM1) fun x6 =>
        some (x6, oM1)
def f_X7_spots (oM : St) (a1 : Int32) : Option (Int32 × St) :=
  bn1 (f_X7_within a1 0 3) fun x1 =>
  if x1 = 0 then
    some ((-102), oM)
  else
    bn1 (f_X7_isSheet oM) fun x4 =>
    if x4 = 0 then
      some ((-103), oM)
    else
      bn2 (f_X7_spotsNow oM a1) fun x7 oM8 =>
      some (x7, oM8)
def f_X7_bestSpot_L7 (oM : St) (v1 : Int32) : Nat → Int32 → Int32 → Int32 → Option (Int32)
  | 0, _, _, _ => none
  | n + 1, v2, v3, v4 =>
    if (oM.1 36) ≤ v4 then
      some (v2)
    else
      bn1 (ag 364 (oM.2.2 39) v4) fun x2 =>
      bn1 (ag 364 (oM.2.2 40) v4) fun x4 =>
      bn1 (ag 364 (oM.2.2 41) v4) fun x6 =>
      bn1 (f_X7_supporters oM x2 x4 x6) fun x8 =>
      bn1 (ag 364 (oM.2.2 39) v4) fun x10 =>
      bn1 (ag 364 (oM.2.2 40) v4) fun x12 =>
      bn1 (f_X7_spanOf oM x10 x12 (x8 &&& v1)) fun x14 =>
      bn1 (f_X7_size (x8 &&& v1)) fun x16 =>
      bn1 (ag 5 (oM.2.2 9) 3) fun x18 =>
      if x16 < x18 then
        f_X7_bestSpot_L7 oM v1 n v2 v3 (v4 + 1)
      else
        bn1 (ag 5 (oM.2.2 9) 4) fun x23 =>
        if x14 < x23 then
          f_X7_bestSpot_L7 oM v1 n v2 v3 (v4 + 1)
        else
          bn1 (f_X7_size (x8 &&& v1)) fun x28 =>
          if (x28 * x14) ≤ v3 then
            f_X7_bestSpot_L7 oM v1 n v2 v3 (v4 + 1)
          else
            bn1 (f_X7_size (x8 &&& v1)) fun x35 =>
            f_X7_bestSpot_L7 oM v1 n v4 (x35 * x14) (v4 + 1)
theorem f_X7_bestSpot_L7_s (oM : St) (v1 : Int32) (n : Nat) (v2 : Int32) (v3 : Int32) (v4 : Int32) : f_X7_bestSpot_L7 oM v1 (n + 1) v2 v3 v4 =
    if (oM.1 36) ≤ v4 then
      some (v2)
    else
      bn1 (ag 364 (oM.2.2 39) v4) fun x2 =>
      bn1 (ag 364 (oM.2.2 40) v4) fun x4 =>
      bn1 (ag 364 (oM.2.2 41) v4) fun x6 =>
      bn1 (f_X7_supporters oM x2 x4 x6) fun x8 =>
      bn1 (ag 364 (oM.2.2 39) v4) fun x10 =>
      bn1 (ag 364 (oM.2.2 40) v4) fun x12 =>
      bn1 (f_X7_spanOf oM x10 x12 (x8 &&& v1)) fun x14 =>
      bn1 (f_X7_size (x8 &&& v1)) fun x16 =>
      bn1 (ag 5 (oM.2.2 9) 3) fun x18 =>
      if x16 < x18 then
        f_X7_bestSpot_L7 oM v1 n v2 v3 (v4 + 1)
      else
        bn1 (ag 5 (oM.2.2 9) 4) fun x23 =>
        if x14 < x23 then
          f_X7_bestSpot_L7 oM v1 n v2 v3 (v4 + 1)
        else
          bn1 (f_X7_size (x8 &&& v1)) fun x28 =>
          if (x28 * x14) ≤ v3 then
            f_X7_bestSpot_L7 oM v1 n v2 v3 (v4 + 1)
          else
            bn1 (f_X7_size (x8 &&& v1)) fun x35 =>
            f_X7_bestSpot_L7 oM v1 n v4 (x35 * x14) (v4 + 1) := rfl
def f_X7_bestSpot (oM : St) (a1 : Int32) : Option (Int32) :=
  f_X7_bestSpot_L7 oM a1 fu ((-1)) 0 0
def f_X7_huntNow_L35 (v1 : Int32) (K : St → Option (Int32 × St)) : Nat → Int32 → St → Option (Int32 × St)
  | 0, _, _ => none
  | n + 1, v2, oM =>
    if (oM.1 5) ≤ v2 then
      K oM
    else
      bn1 (aw 14 oM 15 v2 ((-1))) fun oM7 =>
      f_X7_huntNow_L35 v1 K n (v2 + 1) oM7
theorem f_X7_huntNow_L35_s (v1 : Int32) (K : St → Option (Int32 × St)) (n : Nat) (v2 : Int32) (oM : St) : f_X7_huntNow_L35 v1 K (n + 1) v2 oM =
    if (oM.1 5) ≤ v2 then
      K oM
    else
      bn1 (aw 14 oM 15 v2 ((-1))) fun oM7 =>
      f_X7_huntNow_L35 v1 K n (v2 + 1) oM7 := rfl
def f_X7_huntNow_L140 (v1 : Int32) (v3 : Int32) (K : St → Option (Int32 × St)) : Nat → Int32 → St → Option (Int32 × St)
  | 0, _, _ => none
  | n + 1, v4, oM =>
    if (oM.1 5) ≤ v4 then
      K oM
    else
      if ((v3 >>> (v4 &&& 31)) &&& 1) = 1 then
        bn1 (aw 14 oM 15 v4 (oM.1 11)) fun oM39 =>
        f_X7_huntNow_L140 v1 v3 K n (v4 + 1) oM39
      else
        bn1 (ag 14 (oM.2.2 15) v4) fun x34 =>
        bn1 (aw 14 oM 15 v4 x34) fun oM37 =>
        f_X7_huntNow_L140 v1 v3 K n (v4 + 1) oM37
theorem f_X7_huntNow_L140_s (v1 : Int32) (v3 : Int32) (K : St → Option (Int32 × St)) (n : Nat) (v4 : Int32) (oM : St) : f_X7_huntNow_L140 v1 v3 K (n + 1) v4 oM =
    if (oM.1 5) ≤ v4 then
      K oM
    else
      if ((v3 >>> (v4 &&& 31)) &&& 1) = 1 then
        bn1 (aw 14 oM 15 v4 (oM.1 11)) fun oM39 =>
        f_X7_huntNow_L140 v1 v3 K n (v4 + 1) oM39
      else
        bn1 (ag 14 (oM.2.2 15) v4) fun x34 =>
        bn1 (aw 14 oM 15 v4 x34) fun oM37 =>
        f_X7_huntNow_L140 v1 v3 K n (v4 + 1) oM37 := rfl
def f_X7_huntNow_L62 : Nat → Int32 → Int32 → St → Option (Int32 × St)
  | 0, _, _, _ => none
  | n + 1, v1, v2, oM =>
    if v2 = ((-1)) then
      some (oM.1 11, oM)
    else
      bn1 (ag 364 (oM.2.2 39) v2) fun x12 =>
      bn1 (ag 364 (oM.2.2 40) v2) fun x14 =>
      bn1 (ag 364 (oM.2.2 41) v2) fun x16 =>
      bn1 (f_X7_supporters oM x12 x14 x16) fun x18 =>
      bn1 (ag 364 (oM.2.2 39) v2) fun x20 =>
      bn1 (aw 14 oM 12 (oM.1 11) x20) fun oM23 =>
      bn1 (ag 364 (oM23.2.2 40) v2) fun x24 =>
      bn1 (aw 14 oM23 13 (oM23.1 11) x24) fun oM27 =>
      bn1 (ag 364 (oM27.2.2 41) v2) fun x28 =>
      bn1 (aw 14 oM27 14 (oM27.1 11) x28) fun oM31 =>
      f_X7_huntNow_L140 v1 (x18 &&& v1) (fun (oM40 : St) =>
          bn1 (some (v1 &&& ((x18 &&& v1) ^^^ ((-1))))) fun y41 =>
          bn1 (f_X7_bestSpot ((sI oM40 11 ((oM40.1 11) + 1))) y41) fun x43 =>
          f_X7_huntNow_L62  n y41 x43 ((sI oM40 11 ((oM40.1 11) + 1)))
        ) fu 0 oM31
theorem f_X7_huntNow_L62_s (n : Nat) (v1 : Int32) (v2 : Int32) (oM : St) : f_X7_huntNow_L62  (n + 1) v1 v2 oM =
    if v2 = ((-1)) then
      some (oM.1 11, oM)
    else
      bn1 (ag 364 (oM.2.2 39) v2) fun x12 =>
      bn1 (ag 364 (oM.2.2 40) v2) fun x14 =>
      bn1 (ag 364 (oM.2.2 41) v2) fun x16 =>
      bn1 (f_X7_supporters oM x12 x14 x16) fun x18 =>
      bn1 (ag 364 (oM.2.2 39) v2) fun x20 =>
      bn1 (aw 14 oM 12 (oM.1 11) x20) fun oM23 =>
      bn1 (ag 364 (oM23.2.2 40) v2) fun x24 =>
      bn1 (aw 14 oM23 13 (oM23.1 11) x24) fun oM27 =>
      bn1 (ag 364 (oM27.2.2 41) v2) fun x28 =>
      bn1 (aw 14 oM27 14 (oM27.1 11) x28) fun oM31 =>
      f_X7_huntNow_L140 v1 (x18 &&& v1) (fun (oM40 : St) =>
          bn1 (some (v1 &&& ((x18 &&& v1) ^^^ ((-1))))) fun y41 =>
          bn1 (f_X7_bestSpot ((sI oM40 11 ((oM40.1 11) + 1))) y41) fun x43 =>
          f_X7_huntNow_L62  n y41 x43 ((sI oM40 11 ((oM40.1 11) + 1)))
        ) fu 0 oM31 := rfl
def f_X7_huntNow (oM : St) : Option (Int32 × St) :=
  bn1 (f_X7_laySpots oM) fun oM1 =>
  bn1 (some (((1 : Int32) <<< ((oM1.1 5) &&& 31)) - 1)) fun y3 =>
  f_X7_huntNow_L35 y3 (fun (oM8 : St) =>
      bn1 (f_X7_bestSpot oM8 y3) fun x9 =>
      f_X7_huntNow_L62 fu y3 x9 oM8
    ) fu 0 ((sI (sI (sI oM1 11 0) 16 ((oM1.1 16) + 1)) 10 1))
def f_X7_hunt (oM : St) : Option (Int32 × St) :=
  bn1 (f_X7_isSheet oM) fun x1 =>
  if x1 = 0 then
    some ((-103), oM)
  else
    bn2 (f_X7_huntNow oM) fun x4 oM5 =>
    some (x4, oM5)
def f_X7_farFrom (oM : St) (a1 : Int32) (a2 : Int32) : Option (Int32) :=
  bn1 (ag 14 (oM.2.2 14) a1) fun x1 =>
  bn1 (ag 14 (oM.2.2 12) a1) fun x3 =>
  bn1 (ag 14 (oM.2.2 13) a1) fun x5 =>
  bn1 (f_X7_farOf oM x3 x5 a2) fun x7 =>
  bn1 (f_X7_abs (x7 - (((2 * x1) + 1) * ((2 * x1) + 1)))) fun x9 =>
  some (x9)
def f_X7_nearestRing_L4 (oM : St) (v1 : Int32) : Nat → Int32 → Int32 → Option (Int32)
  | 0, _, _ => none
  | n + 1, v2, v3 =>
    if (oM.1 11) ≤ v3 then
      some (v2)
    else
      bn1 (ag 14 (oM.2.2 12) v3) fun x2 =>
      bn1 (ag 14 (oM.2.2 13) v3) fun x4 =>
      bn1 (ag 14 (oM.2.2 14) v3) fun x6 =>
      bn1 (f_X7_supports oM x2 x4 x6 v1) fun x8 =>
      if x8 = 0 then
        f_X7_nearestRing_L4 oM v1 n v2 (v3 + 1)
      else
        if v2 = ((-1)) then
          f_X7_nearestRing_L4 oM v1 n v3 (v3 + 1)
        else
          bn1 (f_X7_farFrom oM v3 v1) fun x14 =>
          bn1 (f_X7_farFrom oM v2 v1) fun x16 =>
          if x16 ≤ x14 then
            f_X7_nearestRing_L4 oM v1 n v2 (v3 + 1)
          else
            f_X7_nearestRing_L4 oM v1 n v3 (v3 + 1)
theorem f_X7_nearestRing_L4_s (oM : St) (v1 : Int32) (n : Nat) (v2 : Int32) (v3 : Int32) : f_X7_nearestRing_L4 oM v1 (n + 1) v2 v3 =
    if (oM.1 11) ≤ v3 then
      some (v2)
    else
      bn1 (ag 14 (oM.2.2 12) v3) fun x2 =>
      bn1 (ag 14 (oM.2.2 13) v3) fun x4 =>
      bn1 (ag 14 (oM.2.2 14) v3) fun x6 =>
      bn1 (f_X7_supports oM x2 x4 x6 v1) fun x8 =>
      if x8 = 0 then
        f_X7_nearestRing_L4 oM v1 n v2 (v3 + 1)
      else
        if v2 = ((-1)) then
          f_X7_nearestRing_L4 oM v1 n v3 (v3 + 1)
        else
          bn1 (f_X7_farFrom oM v3 v1) fun x14 =>
          bn1 (f_X7_farFrom oM v2 v1) fun x16 =>
          if x16 ≤ x14 then
            f_X7_nearestRing_L4 oM v1 n v2 (v3 + 1)
          else
            f_X7_nearestRing_L4 oM v1 n v3 (v3 + 1) := rfl
def f_X7_nearestRing (oM : St) (a1 : Int32) : Option (Int32) :=
  f_X7_nearestRing_L4 oM a1 fu ((-1)) 0
def f_X7_ownOf_L4 (oM : St) (v1 : Int32) : Nat → Int32 → Int32 → Option (Int32)
  | 0, _, _ => none
  | n + 1, v2, v3 =>
    if (oM.1 5) ≤ v3 then
      some (v2)
    else
      bn1 (ag 14 (oM.2.2 15) v3) fun x2 =>
      if x2 = v1 then
        bn1 (some (v2 ||| ((1 : Int32) <<< (v3 &&& 31)))) fun y5 =>
        f_X7_ownOf_L4 oM v1 n y5 (v3 + 1)
      else
        f_X7_ownOf_L4 oM v1 n (v2 ||| 0) (v3 + 1)
theorem f_X7_ownOf_L4_s (oM : St) (v1 : Int32) (n : Nat) (v2 : Int32) (v3 : Int32) : f_X7_ownOf_L4 oM v1 (n + 1) v2 v3 =
    if (oM.1 5) ≤ v3 then
      some (v2)
    else
      bn1 (ag 14 (oM.2.2 15) v3) fun x2 =>
      if x2 = v1 then
        bn1 (some (v2 ||| ((1 : Int32) <<< (v3 &&& 31)))) fun y5 =>
        f_X7_ownOf_L4 oM v1 n y5 (v3 + 1)
      else
        f_X7_ownOf_L4 oM v1 n (v2 ||| 0) (v3 + 1) := rfl
def f_X7_ownOf (oM : St) (a1 : Int32) : Option (Int32) :=
  f_X7_ownOf_L4 oM a1 fu 0 0
def f_X7_poorest_L4 (oM : St) : Nat → Int32 → Int32 → Option (Int32)
  | 0, _, _ => none
  | n + 1, v1, v2 =>
    if (oM.1 11) ≤ v2 then
      some (v1)
    else
      bn1 (f_X7_ownOf oM v2) fun x2 =>
      bn1 (f_X7_size x2) fun x4 =>
      bn1 (ag 5 (oM.2.2 9) 3) fun x6 =>
      if x6 ≤ x4 then
        f_X7_poorest_L4 oM n v1 (v2 + 1)
      else
        if v1 = ((-1)) then
          f_X7_poorest_L4 oM n v2 (v2 + 1)
        else
          bn1 (f_X7_ownOf oM v1) fun x12 =>
          bn1 (f_X7_size x12) fun x14 =>
          if x14 < x4 then
            f_X7_poorest_L4 oM n v1 (v2 + 1)
          else
            f_X7_poorest_L4 oM n v2 (v2 + 1)
theorem f_X7_poorest_L4_s (oM : St) (n : Nat) (v1 : Int32) (v2 : Int32) : f_X7_poorest_L4 oM (n + 1) v1 v2 =
    if (oM.1 11) ≤ v2 then
      some (v1)
    else
      bn1 (f_X7_ownOf oM v2) fun x2 =>
      bn1 (f_X7_size x2) fun x4 =>
      bn1 (ag 5 (oM.2.2 9) 3) fun x6 =>
      if x6 ≤ x4 then
        f_X7_poorest_L4 oM n v1 (v2 + 1)
      else
        if v1 = ((-1)) then
          f_X7_poorest_L4 oM n v2 (v2 + 1)
        else
          bn1 (f_X7_ownOf oM v1) fun x12 =>
          bn1 (f_X7_size x12) fun x14 =>
          if x14 < x4 then
            f_X7_poorest_L4 oM n v1 (v2 + 1)
          else
            f_X7_poorest_L4 oM n v2 (v2 + 1) := rfl
def f_X7_poorest (oM : St) : Option (Int32) :=
  f_X7_poorest_L4 oM fu ((-1)) 0
def f_X7_tellOff_L2 : Nat → Int32 → St → Option (St)
  | 0, _, _ => none
  | n + 1, v1, oM =>
    if (oM.1 5) ≤ v1 then
      some (oM)
    else
      bn1 (f_X7_nearestRing oM v1) fun x2 =>
      bn1 (aw 14 oM 15 v1 x2) fun oM5 =>
      f_X7_tellOff_L2  n (v1 + 1) oM5
theorem f_X7_tellOff_L2_s (n : Nat) (v1 : Int32) (oM : St) : f_X7_tellOff_L2  (n + 1) v1 oM =
    if (oM.1 5) ≤ v1 then
      some (oM)
    else
      bn1 (f_X7_nearestRing oM v1) fun x2 =>
      bn1 (aw 14 oM 15 v1 x2) fun oM5 =>
      f_X7_tellOff_L2  n (v1 + 1) oM5 := rfl
def f_X7_tellOff (oM : St) : Option (St) :=
  f_X7_tellOff_L2 fu 0 oM
def f_X7_splitNow_L26 (K : St → Option (Int32 × St)) : Nat → Int32 → St → Option (Int32 × St)
  | 0, _, _ => none
  | n + 1, v2, oM =>
    if (oM.1 11) ≤ v2 then
      K oM
    else
      bn1 (ag 14 (oM.2.2 12) (v2 + 1)) fun x7 =>
      bn1 (aw 14 oM 12 v2 x7) fun oM10 =>
      bn1 (ag 14 (oM10.2.2 13) (v2 + 1)) fun x11 =>
      bn1 (aw 14 oM10 13 v2 x11) fun oM14 =>
      bn1 (ag 14 (oM14.2.2 14) (v2 + 1)) fun x15 =>
      bn1 (aw 14 oM14 14 v2 x15) fun oM18 =>
      f_X7_splitNow_L26 K n (v2 + 1) oM18
theorem f_X7_splitNow_L26_s (K : St → Option (Int32 × St)) (n : Nat) (v2 : Int32) (oM : St) : f_X7_splitNow_L26 K (n + 1) v2 oM =
    if (oM.1 11) ≤ v2 then
      K oM
    else
      bn1 (ag 14 (oM.2.2 12) (v2 + 1)) fun x7 =>
      bn1 (aw 14 oM 12 v2 x7) fun oM10 =>
      bn1 (ag 14 (oM10.2.2 13) (v2 + 1)) fun x11 =>
      bn1 (aw 14 oM10 13 v2 x11) fun oM14 =>
      bn1 (ag 14 (oM14.2.2 14) (v2 + 1)) fun x15 =>
      bn1 (aw 14 oM14 14 v2 x15) fun oM18 =>
      f_X7_splitNow_L26 K n (v2 + 1) oM18 := rfl
def f_X7_splitNow_L9 : Nat → Int32 → St → Option (Int32 × St)
  | 0, _, _ => none
  | n + 1, v1, oM =>
    if v1 = ((-1)) then
      some (oM.1 11, oM)
    else
      f_X7_splitNow_L26  (fun (oM19 : St) =>
          bn1 (f_X7_tellOff ((sI oM19 17 ((oM19.1 17) + 1)))) fun oM20 =>
          bn1 (f_X7_poorest oM20) fun x22 =>
          f_X7_splitNow_L9  n x22 oM20
        ) fu v1 ((sI oM 11 ((oM.1 11) - 1)))
theorem f_X7_splitNow_L9_s (n : Nat) (v1 : Int32) (oM : St) : f_X7_splitNow_L9  (n + 1) v1 oM =
    if v1 = ((-1)) then
      some (oM.1 11, oM)
    else
      f_X7_splitNow_L26  (fun (oM19 : St) =>
          bn1 (f_X7_tellOff ((sI oM19 17 ((oM19.1 17) + 1)))) fun oM20 =>
          bn1 (f_X7_poorest oM20) fun x22 =>
          f_X7_splitNow_L9  n x22 oM20
        ) fu v1 ((sI oM 11 ((oM.1 11) - 1))) := rfl
def f_X7_splitNow (oM : St) : Option (Int32 × St) :=
  bn1 (f_X7_tellOff oM) fun oM1 =>
  bn1 (f_X7_poorest oM1) fun x3 =>
  f_X7_splitNow_L9 fu x3 oM1
def f_X7_split (oM : St) : Option (Int32 × St) :=
  if (oM.1 10) = 0 then
    some ((-103), oM)
  else
    bn2 (f_X7_splitNow oM) fun x2 oM3 =>
    some (x2, oM3)
def f_X7_isRing (oM : St) (a1 : Int32) : Option (Int32) :=
  if (oM.1 10) = 0 then
    some (0)
  else
    bn1 (f_X7_within a1 0 ((oM.1 11) - 1)) fun x2 =>
    if x2 = 0 then
      some (0)
    else
      some (1)
def f_X7_kindOf (oM : St) (a1 : Int32) : Option (Int32) :=
  bn1 (ag 14 (oM.2.2 12) a1) fun x1 =>
  bn1 (ag 14 (oM.2.2 13) a1) fun x3 =>
  bn1 (f_X7_ownOf oM a1) fun x5 =>
  bn1 (f_X7_spanOf oM x1 x3 x5) fun x7 =>
  if x7 = 8 then
    some (0)
  else
    some (1)
def f_X7_ringNow (oM : St) (a1 : Int32) (a2 : Int32) : Option (Int32) :=
  if a2 = 0 then
    bn1 (ag 14 (oM.2.2 12) a1) fun x2 =>
    some (x2)
  else
    if a2 = 1 then
      bn1 (ag 14 (oM.2.2 13) a1) fun x5 =>
      some (x5)
    else
      if a2 = 2 then
        bn1 (ag 14 (oM.2.2 14) a1) fun x8 =>
        some (x8)
      else
        if a2 = 3 then
          bn1 (f_X7_ownOf oM a1) fun x11 =>
          bn1 (f_X7_size x11) fun x13 =>
          some (x13)
        else
          if a2 = 4 then
            bn1 (f_X7_ownOf oM a1) fun x16 =>
            some (x16)
          else
            if a2 = 5 then
              bn1 (ag 14 (oM.2.2 12) a1) fun x19 =>
              bn1 (ag 14 (oM.2.2 13) a1) fun x21 =>
              bn1 (f_X7_ownOf oM a1) fun x23 =>
              bn1 (f_X7_spanOf oM x19 x21 x23) fun x25 =>
              some (x25)
            else
              bn1 (f_X7_kindOf oM a1) fun x27 =>
              some (x27)
def f_X7_ring (oM : St) (a1 : Int32) (a2 : Int32) : Option (Int32) :=
  bn1 (f_X7_isRing oM a1) fun x1 =>
  if x1 = 0 then
    some ((-101))
  else
    bn1 (f_X7_within a2 0 6) fun x4 =>
    if x4 = 0 then
      some ((-102))
    else
      bn1 (f_X7_ringNow oM a1 a2) fun x7 =>
      some (x7)
def f_X7_as (oM : St) (a1 : Int32) (a2 : Int32) : Option (Int32) :=
  bn1 (f_X7_isRing oM a1) fun x1 =>
  if x1 = 0 then
    some ((-101))
  else
    bn1 (f_X7_within a2 0 1) fun x4 =>
    if x4 = 0 then
      some ((-102))
    else
      bn1 (f_X7_kindOf oM a1) fun x7 =>
      if x7 = a2 then
        some (a1)
      else
        some ((-1))
def f_X7_cross (oM : St) (a1 : Int32) (a2 : Int32) : Option (Int32) :=
  bn1 (f_X7_isRing oM a1) fun x1 =>
  if x1 = 0 then
    some ((-101))
  else
    bn1 (f_X7_isRing oM a2) fun x4 =>
    if x4 = 0 then
      some ((-101))
    else
      if a1 = a2 then
        some ((-101))
      else
        bn1 (ag 14 (oM.2.2 12) a1) fun x8 =>
        bn1 (ag 14 (oM.2.2 12) a2) fun x10 =>
        bn1 (ag 14 (oM.2.2 13) a1) fun x12 =>
        bn1 (ag 14 (oM.2.2 13) a2) fun x14 =>
        bn1 (ag 14 (oM.2.2 14) a1) fun x16 =>
        bn1 (ag 14 (oM.2.2 14) a2) fun x18 =>
        bn1 (ag 14 (oM.2.2 14) a1) fun x20 =>
        bn1 (ag 14 (oM.2.2 14) a2) fun x22 =>
        bn1 (some (((2 * (x8 - x10)) * (2 * (x8 - x10))) + ((2 * (x12 - x14)) * (2 * (x12 - x14))))) fun y24 =>
        if ((((2 * x16) + (2 * x18)) + 2) * (((2 * x16) + (2 * x18)) + 2)) < y24 then
          some (0)
        else
          if y24 < ((2 * (x20 - x22)) * (2 * (x20 - x22))) then
            some (0)
          else
            some (1)
def f_X7_ofRings_L4 (oM : St) : Nat → Int32 → Int32 → Option (Int32)
  | 0, _, _ => none
  | n + 1, v1, v2 =>
    if (oM.1 5) ≤ v2 then
      some (v1)
    else
      bn1 (f_X7_ringOf oM v2) fun x2 =>
      if x2 = ((-1)) then
        f_X7_ofRings_L4 oM n (v1 + 0) (v2 + 1)
      else
        f_X7_ofRings_L4 oM n (v1 + 1) (v2 + 1)
theorem f_X7_ofRings_L4_s (oM : St) (n : Nat) (v1 : Int32) (v2 : Int32) : f_X7_ofRings_L4 oM (n + 1) v1 v2 =
    if (oM.1 5) ≤ v2 then
      some (v1)
    else
      bn1 (f_X7_ringOf oM v2) fun x2 =>
      if x2 = ((-1)) then
        f_X7_ofRings_L4 oM n (v1 + 0) (v2 + 1)
      else
        f_X7_ofRings_L4 oM n (v1 + 1) (v2 + 1) := rfl
def f_X7_ofRings (oM : St) : Option (Int32) :=
  f_X7_ofRings_L4 oM fu 0 0
def f_X7_howMany (oM : St) (a1 : Int32) : Option (Int32) :=
  if a1 = 0 then
    some (oM.1 5)
  else
    if a1 = 1 then
      if (oM.1 10) = 0 then
        some (0)
      else
        some (oM.1 11)
    else
      if a1 = 2 then
        bn1 (f_X7_ofRings oM) fun x5 =>
        some (x5)
      else
        if a1 = 3 then
          some (oM.1 0)
        else
          if a1 = 4 then
            some (oM.1 4)
          else
            if a1 = 5 then
              some (oM.1 16)
            else
              if a1 = 6 then
                some (oM.1 17)
              else
                some ((-102))
def f_X7_count (oM : St) (a1 : Int32) : Option (Int32) :=
  bn1 (f_X7_howMany oM a1) fun x1 =>
  some (x1)
def f_X7_mix (oM : St) (a1 : Int64) : Option (St) :=
  some ((sL oM 43 ((31 * (oM.2.1 43)) + a1)))
def f_X7_mixSheet_L2 (K : St → Option (St)) : Nat → Int32 → St → Option (St)
  | 0, _, _ => none
  | n + 1, v1, oM =>
    if 8 ≤ v1 then
      K oM
    else
      bn1 (f_X7_aboutNow oM v1) fun x2 =>
      bn1 (f_X7_mix oM ((x2 : Int32).toInt64)) fun oM4 =>
      f_X7_mixSheet_L2 K n (v1 + 1) oM4
theorem f_X7_mixSheet_L2_s (K : St → Option (St)) (n : Nat) (v1 : Int32) (oM : St) : f_X7_mixSheet_L2 K (n + 1) v1 oM =
    if 8 ≤ v1 then
      K oM
    else
      bn1 (f_X7_aboutNow oM v1) fun x2 =>
      bn1 (f_X7_mix oM ((x2 : Int32).toInt64)) fun oM4 =>
      f_X7_mixSheet_L2 K n (v1 + 1) oM4 := rfl
def f_X7_mixSheet_L26 (K : St → Option (St)) : Nat → Int32 → St → Option (St)
  | 0, _, _ => none
  | n + 1, v1, oM =>
    if (4 * (oM.1 5)) ≤ v1 then
      K oM
    else
      bn1 (f_X7_toldNow oM (v1 / 4) (v1 - v1 / 4 * 4)) fun x8 =>
      bn1 (f_X7_mix oM ((x8 : Int32).toInt64)) fun oM10 =>
      f_X7_mixSheet_L26 K n (v1 + 1) oM10
theorem f_X7_mixSheet_L26_s (K : St → Option (St)) (n : Nat) (v1 : Int32) (oM : St) : f_X7_mixSheet_L26 K (n + 1) v1 oM =
    if (4 * (oM.1 5)) ≤ v1 then
      K oM
    else
      bn1 (f_X7_toldNow oM (v1 / 4) (v1 - v1 / 4 * 4)) fun x8 =>
      bn1 (f_X7_mix oM ((x8 : Int32).toInt64)) fun oM10 =>
      f_X7_mixSheet_L26 K n (v1 + 1) oM10 := rfl
def f_X7_mixSheet_L59 (K : St → Option (St)) : Nat → Int32 → St → Option (St)
  | 0, _, _ => none
  | n + 1, v1, oM =>
    if 4 ≤ v1 then
      K oM
    else
      bn2 (f_X7_spotsNow oM v1) fun x14 oM15 =>
      bn1 (f_X7_mix oM15 ((x14 : Int32).toInt64)) fun oM17 =>
      f_X7_mixSheet_L59 K n (v1 + 1) oM17
theorem f_X7_mixSheet_L59_s (K : St → Option (St)) (n : Nat) (v1 : Int32) (oM : St) : f_X7_mixSheet_L59 K (n + 1) v1 oM =
    if 4 ≤ v1 then
      K oM
    else
      bn2 (f_X7_spotsNow oM v1) fun x14 oM15 =>
      bn1 (f_X7_mix oM15 ((x14 : Int32).toInt64)) fun oM17 =>
      f_X7_mixSheet_L59 K n (v1 + 1) oM17 := rfl
def f_X7_mixSheet_L82 (K : St → Option (St)) : Nat → Int32 → St → Option (St)
  | 0, _, _ => none
  | n + 1, v1, oM =>
    if (7 * (oM.1 36)) ≤ v1 then
      K oM
    else
      bn1 (f_X7_spotNow oM (v1 / 7) (v1 - v1 / 7 * 7)) fun x21 =>
      bn1 (f_X7_mix oM ((x21 : Int32).toInt64)) fun oM23 =>
      f_X7_mixSheet_L82 K n (v1 + 1) oM23
theorem f_X7_mixSheet_L82_s (K : St → Option (St)) (n : Nat) (v1 : Int32) (oM : St) : f_X7_mixSheet_L82 K (n + 1) v1 oM =
    if (7 * (oM.1 36)) ≤ v1 then
      K oM
    else
      bn1 (f_X7_spotNow oM (v1 / 7) (v1 - v1 / 7 * 7)) fun x21 =>
      bn1 (f_X7_mix oM ((x21 : Int32).toInt64)) fun oM23 =>
      f_X7_mixSheet_L82 K n (v1 + 1) oM23 := rfl
def f_X7_mixSheet_L118 : Nat → Int32 → St → Option (St)
  | 0, _, _ => none
  | n + 1, v1, oM =>
    if (7 * (oM.1 11)) ≤ v1 then
      some (oM)
    else
      if (oM.1 10) = 0 then
        some (oM)
      else
        bn1 (f_X7_ringNow oM (v1 / 7) (v1 - v1 / 7 * 7)) fun x28 =>
        bn1 (f_X7_mix oM ((x28 : Int32).toInt64)) fun oM30 =>
        f_X7_mixSheet_L118  n (v1 + 1) oM30
theorem f_X7_mixSheet_L118_s (n : Nat) (v1 : Int32) (oM : St) : f_X7_mixSheet_L118  (n + 1) v1 oM =
    if (7 * (oM.1 11)) ≤ v1 then
      some (oM)
    else
      if (oM.1 10) = 0 then
        some (oM)
      else
        bn1 (f_X7_ringNow oM (v1 / 7) (v1 - v1 / 7 * 7)) fun x28 =>
        bn1 (f_X7_mix oM ((x28 : Int32).toInt64)) fun oM30 =>
        f_X7_mixSheet_L118  n (v1 + 1) oM30 := rfl
def f_X7_mixSheet (oM : St) : Option (St) :=
  f_X7_mixSheet_L2  (fun (oM6 : St) =>
      f_X7_mixSheet_L26  (fun (oM12 : St) =>
          f_X7_mixSheet_L59  (fun (oM19 : St) =>
              f_X7_mixSheet_L82  (fun (oM25 : St) =>
                  f_X7_mixSheet_L118 fu 0 oM25
                ) fu 0 oM19
            ) fu 0 oM12
        ) fu 0 oM6
    ) fu 0 oM
def f_X7_digest_L20 (K : St → Option (Int64 × St)) : Nat → Int32 → St → Option (Int64 × St)
  | 0, _, _ => none
  | n + 1, v1, oM =>
    if (oM.1 0) ≤ v1 then
      K oM
    else
      bn1 (ag 50 (oM.2.2 1) v1) fun x5 =>
      bn1 (f_X7_mix oM ((x5 : Int32).toInt64)) fun oM7 =>
      f_X7_digest_L20 K n (v1 + 1) oM7
theorem f_X7_digest_L20_s (K : St → Option (Int64 × St)) (n : Nat) (v1 : Int32) (oM : St) : f_X7_digest_L20 K (n + 1) v1 oM =
    if (oM.1 0) ≤ v1 then
      K oM
    else
      bn1 (ag 50 (oM.2.2 1) v1) fun x5 =>
      bn1 (f_X7_mix oM ((x5 : Int32).toInt64)) fun oM7 =>
      f_X7_digest_L20 K n (v1 + 1) oM7 := rfl
def f_X7_digest_L47 : Nat → Int32 → St → Option (Int64 × St)
  | 0, _, _ => none
  | n + 1, v1, oM =>
    if 7 ≤ v1 then
      some (oM.2.1 43, oM)
    else
      bn1 (f_X7_howMany oM v1) fun x11 =>
      bn1 (f_X7_mix oM ((x11 : Int32).toInt64)) fun oM13 =>
      f_X7_digest_L47  n (v1 + 1) oM13
theorem f_X7_digest_L47_s (n : Nat) (v1 : Int32) (oM : St) : f_X7_digest_L47  (n + 1) v1 oM =
    if 7 ≤ v1 then
      some (oM.2.1 43, oM)
    else
      bn1 (f_X7_howMany oM v1) fun x11 =>
      bn1 (f_X7_mix oM ((x11 : Int32).toInt64)) fun oM13 =>
      f_X7_digest_L47  n (v1 + 1) oM13 := rfl
def f_X7_digest (oM : St) : Option (Int64 × St) :=
  bn1 (f_X7_isSheet ((sL oM 43 1559))) fun x1 =>
  if x1 = 0 then
    f_X7_digest_L20  (fun (oM9 : St) =>
        f_X7_digest_L47 fu 0 oM9
      ) fu 0 ((sL oM 43 1559))
  else
    bn1 (f_X7_mixSheet ((sL oM 43 1559))) fun oM15 =>
    f_X7_digest_L20  (fun (oM17 : St) =>
        f_X7_digest_L47 fu 0 oM17
      ) fu 0 oM15
