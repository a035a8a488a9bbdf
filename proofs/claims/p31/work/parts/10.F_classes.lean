def F_X0_clear (σ : GS) (th : Nat) : Option (GS) :=
  let σ1 := sI σ th 2 0
  some σ1

def F_X1_addPiece (σ : GS) (th : Nat) (a1 : Int32) (a2 : Int32) : Option (GS) :=
  if (nI (lnG (rfG th 0))) ≤ (gI σ th 8) then
   (
    some σ
   )
  else
   (
    if (nI (lnG (rfG th 1))) ≤ (gI σ th 8) then
     (
      some σ
     )
    else
     (
      if inB (gI σ th 8) (lnG (rfG th 0)) then
        let σ4 := sI σ (rfG th 0) (gI σ th 8).toNatClampNeg a1
        if inB (gI σ4 th 8) (lnG (rfG th 1)) then
          let σ6 := sI σ4 (rfG th 1) (gI σ4 th 8).toNatClampNeg a2
          let σ7 := sI σ6 th 8 ((gI σ6 th 8) + 1)
          let σ8 := sI σ7 th 11 ((gI σ7 th 11) + a1)
          some σ8
        else none
      else none
     )
   )

def F_X1_addPercent (σ : GS) (th : Nat) (a1 : Int32) : Option (GS) :=
  if (nI (lnG (rfG th 2))) ≤ (gI σ th 9) then
   (
    some σ
   )
  else
   (
    if inB (gI σ th 9) (lnG (rfG th 2)) then
      let σ3 := sI σ (rfG th 2) (gI σ th 9).toNatClampNeg a1
      let σ4 := sI σ3 th 9 ((gI σ3 th 9) + 1)
      some σ4
    else none
   )

def L_X1_indexOfName_2 (th : Nat) (a1 : Int64) : Nat → GS → Int32 → Option (Int32)
  | 0, _, _ => none
  | n + 1, σ, v3 =>
    if (gI σ th 10) ≤ v3 then
     (
      some (-1)
     )
    else
     (
      if (nI (lnG (rfG th 3))) ≤ v3 then
       (
        some (-1)
       )
      else
       (
        if inB v3 (lnG (rfG th 3)) then
          if (lg_cmp (gL σ (rfG (rfG th 3) v3.toNatClampNeg) 2) a1) = 0 then
           (
            some v3
           )
          else
           (
            (L_X1_indexOfName_2 th a1 n) σ (v3 + 1)
           )
        else none
       )
     )
def F_X1_indexOfName (σ : GS) (th : Nat) (a1 : Int64) : Option (Int32) :=
  L_X1_indexOfName_2 th a1 NF σ 0

def F_X2_planned (σ : GS) (th : Nat) (a1 : Int32) : Option (Int32) :=
  if a1 < 0 then
   (
    some (-1)
   )
  else
   (
    if (nI (lnG (rfG th 3))) ≤ a1 then
     (
      some (-1)
     )
    else
     (
      if inB a1 (lnG (rfG th 3)) then
        some (gI σ (rfG th 3) a1.toNatClampNeg)
      else none
     )
   )

def J_X3_begin_10 (th : Nat) (a1 : Int32) (σ : GS) (u0 : Int32) : Option (GS) :=
  let σ1 := sI σ th 5 u0
  let σ3 := sI σ1 th 6 (gI σ1 (rfG th 1) 3)
  let σ5 := sI σ3 th 7 (gI σ3 (rfG th 1) 5)
  let σ6 := sI σ5 th 8 0
  let σ7 := sI σ6 th 9 0
  let σ8 := sI σ7 th 10 (-1)
  let σ9 := sI σ8 th 11 0
  let σ10 := sI σ9 th 12 0
  let σ11 := sI σ10 th 13 0
  let σ12 := sI σ11 th 14 0
  let σ13 := sI σ12 th 15 0
  let σ14 := sI σ13 th 16 0
  let σ15 := sI σ14 th 17 0
  let σ16 := sR σ15 th 18 (none)
  some σ16
def F_X3_begin (σ : GS) (th : Nat) (a1 : Int32) : Option (GS) :=
  if a1 = 0 then
   (
    J_X3_begin_10 th a1 σ 5
   )
  else
   (
    J_X3_begin_10 th a1 σ 0
   )

def F_X3_isActive (σ : GS) (th : Nat) : Option (Int32) :=
  if (3 : Int32) ≤ (gI σ th 5) then
   (
    some 0
   )
  else
   (
    some 1
   )

def F_X3_isLoading (σ : GS) (th : Nat) : Option (Int32) :=
  if (3 : Int32) ≤ (gI σ th 5) then
   (
    some 0
   )
  else
   (
    if (gI σ th 10) = (-1) then
     (
      some 0
     )
    else
     (
      some 1
     )
   )

def F_X3_hasAll (σ : GS) (th : Nat) : Option (Int32) :=
  if (gI σ th 9) < (gI σ (rfG th 1) 4) then
   (
    some 0
   )
  else
   (
    some 1
   )

def F_X3_segmentsAsked (σ : GS) (th : Nat) : Option (Int32) :=
  if (gI σ th 10) = (-1) then
   (
    some (gI σ th 9)
   )
  else
   (
    some ((gI σ th 9) + 1)
   )

def F_X3_segmentsToAsk (σ : GS) (th : Nat) : Option (Int32) :=
  if (3 : Int32) ≤ (gI σ th 5) then
   (
    some 0
   )
  else
   (
    (F_X3_segmentsAsked σ th).bind fun o2 =>
    some ((gI σ (rfG th 1) 4) - o2)
   )

def F_X3_canAsk (σ : GS) (th : Nat) (a1 : Int32) : Option (Int32) :=
  if (3 : Int32) ≤ (gI σ th 5) then
   (
    some 0
   )
  else
   (
    if a1 < (gI σ (rfG th 1) 7) then
     (
      some 0
     )
    else
     (
      if (gI σ th 10) = (-1) then
       (
        if (gI σ (rfG th 1) 4) ≤ (gI σ th 9) then
         (
          some 0
         )
        else
         (
          if (gI σ th 8) = 0 then
           (
            some 1
           )
          else
           (
            if (gI σ (rfG th 0) 6) < ((gI σ th 8) + (gI σ (rfG th 0) 4)) then
             (
              some 0
             )
            else
             (
              some 1
             )
           )
         )
       )
      else
       (
        some 0
       )
     )
   )

def F_X3_byBuffer (σ : GS) (th : Nat) : Option (Int32) :=
  if (gI σ (rfG th 0) 6) ≤ 0 then
   (
    if ((gI σ (rfG th 1) 6) - 1) ≤ 0 then
     (
      some ((gI σ (rfG th 1) 6) - 1)
     )
    else
     (
      some 0
     )
   )
  else
   (
    if ¬ (gI σ (rfG th 0) 6) = 0 then
      if ((gI σ (rfG th 1) 6) - 1) ≤ (((gI σ th 8) * (gI σ (rfG th 1) 6)) / (gI σ (rfG th 0) 6)) then
       (
        some ((gI σ (rfG th 1) 6) - 1)
       )
      else
       (
        some (((gI σ th 8) * (gI σ (rfG th 1) 6)) / (gI σ (rfG th 0) 6))
       )
    else none
   )

def F_X3_budget (σ : GS) (th : Nat) : Option (Int32) :=
  some (((gI σ th 17) * (gI σ (rfG th 0) 4)) * (gI σ (rfG th 0) 7))

def F_X3_take (σ : GS) (th : Nat) (a1 : Int32) : Option (GS) :=
  let σ1 := sI σ th 11 ((gI σ th 11) - a1)
  let σ2 := sI σ1 th 16 ((gI σ1 th 16) + a1)
  some σ2

def J_X3_play_124 (th : Nat) (a1 : Int32) (σ : GS) : Option (GS) :=
  (F_X3_hasAll σ th).bind fun o11 =>
  if o11 = 0 then
   (
    some σ
   )
  else
   (
    if (gI σ th 8) = 0 then
     (
      let σ12 := sI σ th 5 3
      some σ12
     )
    else
     (
      some σ
     )
   )
def J_X3_play_106 (th : Nat) (a1 : Int32) (σ : GS) : Option (GS) :=
  if (gI σ th 5) = 2 then
   (
    let σ10 := sI σ th 14 ((gI σ th 14) + 1)
    J_X3_play_124 th a1 σ10
   )
  else
   (
    J_X3_play_124 th a1 σ
   )
def J_X3_play_46 (th : Nat) (a1 : Int32) (σ : GS) : Option (GS) :=
  if (gI σ th 5) = 1 then
   (
    if (gI σ th 8) ≤ 0 then
     (
      (F_X3_hasAll σ th).bind fun o5 =>
      if o5 = 0 then
       (
        let σ6 := sI σ th 5 2
        let σ7 := sI σ6 th 15 ((gI σ6 th 15) + 1)
        J_X3_play_106 th a1 σ7
       )
      else
       (
        J_X3_play_106 th a1 σ
       )
     )
    else
     (
      let σ8 := sI σ th 8 ((gI σ th 8) - 1)
      let σ9 := sI σ8 th 13 ((gI σ8 th 13) + 1)
      J_X3_play_106 th a1 σ9
     )
   )
  else
   (
    J_X3_play_106 th a1 σ
   )
def J_X3_play_41 (th : Nat) (a1 : Int32) (σ : GS) : Option (GS) :=
  let σ4 := sI σ th 5 1
  J_X3_play_46 th a1 σ4
def F_X3_play (σ : GS) (th : Nat) (a1 : Int32) : Option (GS) :=
  if (3 : Int32) ≤ (gI σ th 5) then
   (
    some σ
   )
  else
   (
    if (gI σ (rfG th 1) 7) ≤ a1 then
     (
      if (gI σ (rfG th 0) 5) ≤ (gI σ th 8) then
       (
        J_X3_play_41 th a1 σ
       )
      else
       (
        (F_X3_hasAll σ th).bind fun o3 =>
        if o3 = 0 then
         (
          J_X3_play_46 th a1 σ
         )
        else
         (
          J_X3_play_41 th a1 σ
         )
       )
     )
    else
     (
      some σ
     )
   )

def L_X3_countSwitches_4 (th : Nat) : Nat → GS → Int32 → Int32 → Option (Int32)
  | 0, _, _, _ => none
  | n + 1, σ, v1, v2 =>
    if (gI σ th 9) ≤ v2 then
     (
      some v1
     )
    else
     (
      if (nI (lnG (rfG th 2))) ≤ v2 then
       (
        some v1
       )
      else
       (
        if inB v2 (lnG (rfG th 2)) then
          if inB (v2 - 1) (lnG (rfG th 2)) then
            if (gI σ (rfG th 2) v2.toNatClampNeg) = (gI σ (rfG th 2) (v2 - 1).toNatClampNeg) then
             (
              (L_X3_countSwitches_4 th n) σ v1 (v2 + 1)
             )
            else
             (
              (L_X3_countSwitches_4 th n) σ (v1 + 1) (v2 + 1)
             )
          else none
        else none
       )
     )
def F_X3_countSwitches (σ : GS) (th : Nat) : Option (Int32) :=
  L_X3_countSwitches_4 th NF σ 0 1

def L_X3_sumOfQualities_4 (th : Nat) : Nat → GS → Int32 → Int32 → Option (Int32)
  | 0, _, _, _ => none
  | n + 1, σ, v1, v2 =>
    if (gI σ th 9) ≤ v2 then
     (
      some v1
     )
    else
     (
      if (nI (lnG (rfG th 2))) ≤ v2 then
       (
        some v1
       )
      else
       (
        if inB v2 (lnG (rfG th 2)) then
          (L_X3_sumOfQualities_4 th n) σ (v1 + (gI σ (rfG th 2) v2.toNatClampNeg)) (v2 + 1)
        else none
       )
     )
def F_X3_sumOfQualities (σ : GS) (th : Nat) : Option (Int32) :=
  L_X3_sumOfQualities_4 th NF σ 0 0

def F_X4_hasRoom (σ : GS) (th : Nat) : Option (Int32) :=
  if (nI (lnG (rfG th 1))) < ((gI σ th 2) + 20) then
   (
    some 0
   )
  else
   (
    some 1
   )

def L_X4_addBytes_3 (th : Nat) (a1 : Int32) : Nat → GS → Int32 → Option (GS)
  | 0, _, _ => none
  | n + 1, σ, v2 =>
    if v2 < 0 then
     (
      some σ
     )
    else
     (
      if (nI (lnG (rfG th 1))) ≤ (gI σ th 2) then
       (
        (L_X4_addBytes_3 th a1 n) σ (v2 + (-8))
       )
      else
       (
        if inB (gI σ th 2) (lnG (rfG th 1)) then
          let σ3 := sI σ (rfG th 1) (gI σ th 2).toNatClampNeg (((a1 >>> (v2 &&& 31)).toInt8.toInt32).toInt8.toInt32)
          let σ4 := sI σ3 th 2 ((gI σ3 th 2) + 1)
          (L_X4_addBytes_3 th a1 n) σ4 (v2 + (-8))
        else none
       )
     )
def F_X4_addBytes (σ : GS) (th : Nat) (a1 : Int32) : Option (GS) :=
  L_X4_addBytes_3 th a1 NF σ 24

def F_X4_fail (σ : GS) (th : Nat) (a1 : Int32) : Option (GS) :=
  if (gI σ th 4) = 0 then
   (
    let σ1 := sI σ th 4 a1
    let σ2 := sI σ1 th 3 (gI σ1 th 7)
    some σ2
   )
  else
   (
    some σ
   )

def F_X4_byteAt (σ : GS) (th : Nat) (a1 : Int32) : Option (Int32) :=
  if a1 < 0 then
   (
    some (-1)
   )
  else
   (
    if (gI σ th 5) ≤ a1 then
     (
      some (-1)
     )
    else
     (
      if (nI (lnG (rfG th 1))) ≤ a1 then
       (
        some (-1)
       )
      else
       (
        if inB a1 (lnG (rfG th 1)) then
          some ((gI σ (rfG th 1) a1.toNatClampNeg) &&& 255)
        else none
       )
     )
   )

def F_X4_isLetter (σ : GS) (a1 : Int32) : Option (Int32) :=
  if a1 < 97 then
   (
    some 0
   )
  else
   (
    if (122 : Int32) < a1 then
     (
      some 0
     )
    else
     (
      some 1
     )
   )

def F_X4_isDigit (σ : GS) (a1 : Int32) : Option (Int32) :=
  if a1 < 48 then
   (
    some 0
   )
  else
   (
    if (57 : Int32) < a1 then
     (
      some 0
     )
    else
     (
      some 1
     )
   )

def L_X4_packed_4 (a1 : Nat) : Nat → GS → Int64 → Int32 → Option (Int64)
  | 0, _, _, _ => none
  | n + 1, σ, v1, v3 =>
    if (nI (strB a1).length) ≤ v3 then
     (
      some v1
     )
    else
     (
      if inB v3 (strB a1).length then
        (L_X4_packed_4 a1 n) σ ((v1 <<< ((8 : Int32).toInt64 &&& 63)) ||| (((strB a1).getD v3.toNatClampNeg 0).toInt64)) (v3 + 1)
      else none
     )
def F_X4_packed (σ : GS) (a1 : Nat) : Option (Int64) :=
  L_X4_packed_4 a1 NF σ 0 0

def F_X5_seat (σ : GS) (th : Nat) (a1 : Int32) : Option (Nat) :=
  if a1 ≤ 0 then
   (
    if inB 0 (lnG (rfG th 2)) then
      some (rfG (rfG th 2) (0 : Int32).toNatClampNeg)
    else none
   )
  else
   (
    if (nI (lnG (rfG th 2))) ≤ a1 then
     (
      if inB 0 (lnG (rfG th 2)) then
        some (rfG (rfG th 2) (0 : Int32).toNatClampNeg)
      else none
     )
    else
     (
      if inB a1 (lnG (rfG th 2)) then
        some (rfG (rfG th 2) a1.toNatClampNeg)
      else none
     )
   )

def L_X5_rateAt_39 (th : Nat) (a1 : Int32) : Nat → GS → Int32 → Int32 → Option (Int32)
  | 0, _, _, _ => none
  | n + 1, σ, v2, v3 =>
    if (gI σ (rfG th 0) 8) ≤ v3 then
     (
      some 100
     )
    else
     (
      if (nI (lnG (rfG th 1))) ≤ v3 then
       (
        some 100
       )
      else
       (
        if inB v3 (lnG (rfG (rfG th 0) 0)) then
          if (gI σ (rfG (rfG th 0) 0) v3.toNatClampNeg) ≤ v2 then
           (
            if inB v3 (lnG (rfG (rfG th 0) 0)) then
              (L_X5_rateAt_39 th a1 n) σ (v2 - (gI σ (rfG (rfG th 0) 0) v3.toNatClampNeg)) (v3 + 1)
            else none
           )
          else
           (
            if inB v3 (lnG (rfG th 1)) then
              some (gI σ (rfG th 1) v3.toNatClampNeg)
            else none
           )
        else none
       )
     )
def F_X5_rateAt (σ : GS) (th : Nat) (a1 : Int32) : Option (Int32) :=
  if (gI σ th 6) = (-1) then
   (
    if (gI σ (rfG th 0) 11) ≤ 0 then
     (
      L_X5_rateAt_39 th a1 NF σ 0 0
     )
    else
     (
      if ¬ (gI σ (rfG th 0) 11) = 0 then
        L_X5_rateAt_39 th a1 NF σ (a1 - a1 / (gI σ (rfG th 0) 11) * (gI σ (rfG th 0) 11)) 0
      else none
     )
   )
  else
   (
    some (gI σ th 6)
   )

def L_X5_weightsInNeed_13 (th : Nat) : Nat → GS → Int32 → Int32 → Option (Int32)
  | 0, _, _, _ => none
  | n + 1, σ, v1, v4 =>
    if (nI (lnG (rfG th 2))) ≤ v4 then
     (
      some v1
     )
    else
     (
      if inB v4 (lnG (rfG th 2)) then
        (F_X3_isLoading σ (rfG (rfG th 2) v4.toNatClampNeg)).bind fun o3 =>
        if o3 = 0 then
         (
          (L_X5_weightsInNeed_13 th n) σ v1 (v4 + 1)
         )
        else
         (
          if (gI σ (rfG (rfG th 2) v4.toNatClampNeg) 11) ≤ 0 then
           (
            (L_X5_weightsInNeed_13 th n) σ v1 (v4 + 1)
           )
          else
           (
            (L_X5_weightsInNeed_13 th n) σ (v1 + (gI σ (rfG (rfG th 2) v4.toNatClampNeg) 7)) (v4 + 1)
           )
         )
      else none
     )
def F_X5_weightsInNeed (σ : GS) (th : Nat) : Option (Int32) :=
  L_X5_weightsInNeed_13 th NF σ 0 0

def L_X5_giveByWeight_16 (th : Nat) (a1 : Int32) (a2 : Int32) : Nat → GS → Int32 → Int32 → Option (GS × Int32)
  | 0, _, _, _ => none
  | n + 1, σ, v3, v6 =>
    if (nI (lnG (rfG th 2))) ≤ v6 then
     (
      some (σ, v3)
     )
    else
     (
      if inB v6 (lnG (rfG th 2)) then
        (F_X3_isLoading σ (rfG (rfG th 2) v6.toNatClampNeg)).bind fun o3 =>
        if o3 = 0 then
         (
          (L_X5_giveByWeight_16 th a1 a2 n) σ v3 (v6 + 1)
         )
        else
         (
          if (gI σ (rfG (rfG th 2) v6.toNatClampNeg) 11) ≤ 0 then
           (
            (L_X5_giveByWeight_16 th a1 a2 n) σ v3 (v6 + 1)
           )
          else
           (
            if a2 ≤ 0 then
             (
              (L_X5_giveByWeight_16 th a1 a2 n) σ v3 (v6 + 1)
             )
            else
             (
              if ¬ a2 = 0 then
                (F_X3_take σ (rfG (rfG th 2) v6.toNatClampNeg) (if (gI σ (rfG (rfG th 2) v6.toNatClampNeg) 11) < ((a1 * (gI σ (rfG (rfG th 2) v6.toNatClampNeg) 7)) / a2) then (gI σ (rfG (rfG th 2) v6.toNatClampNeg) 11) else ((a1 * (gI σ (rfG (rfG th 2) v6.toNatClampNeg) 7)) / a2))).bind fun o4 =>
                (L_X5_giveByWeight_16 th a1 a2 n) o4 (v3 + (if (gI σ (rfG (rfG th 2) v6.toNatClampNeg) 11) < ((a1 * (gI σ (rfG (rfG th 2) v6.toNatClampNeg) 7)) / a2) then (gI σ (rfG (rfG th 2) v6.toNatClampNeg) 11) else ((a1 * (gI σ (rfG (rfG th 2) v6.toNatClampNeg) 7)) / a2))) (v6 + 1)
              else none
             )
           )
         )
      else none
     )
def F_X5_giveByWeight (σ : GS) (th : Nat) (a1 : Int32) (a2 : Int32) : Option (GS × Int32) :=
  L_X5_giveByWeight_16 th a1 a2 NF σ 0 0

def L_X5_giveSingly_14 (th : Nat) (a1 : Int32) : Nat → GS → Int32 → Int32 → Option (GS × Int32)
  | 0, _, _, _ => none
  | n + 1, σ, v2, v5 =>
    if (nI (lnG (rfG th 2))) ≤ v5 then
     (
      some (σ, v2)
     )
    else
     (
      if inB v5 (lnG (rfG th 2)) then
        if a1 ≤ v2 then
         (
          (L_X5_giveSingly_14 th a1 n) σ v2 (v5 + 1)
         )
        else
         (
          (F_X3_isLoading σ (rfG (rfG th 2) v5.toNatClampNeg)).bind fun o3 =>
          if o3 = 0 then
           (
            (L_X5_giveSingly_14 th a1 n) σ v2 (v5 + 1)
           )
          else
           (
            if (gI σ (rfG (rfG th 2) v5.toNatClampNeg) 11) ≤ 0 then
             (
              (L_X5_giveSingly_14 th a1 n) σ v2 (v5 + 1)
             )
            else
             (
              (F_X3_take σ (rfG (rfG th 2) v5.toNatClampNeg) 1).bind fun o4 =>
              (L_X5_giveSingly_14 th a1 n) o4 (v2 + 1) (v5 + 1)
             )
           )
         )
      else none
     )
def F_X5_giveSingly (σ : GS) (th : Nat) (a1 : Int32) : Option (GS × Int32) :=
  L_X5_giveSingly_14 th a1 NF σ 0 0

def L_X5_anyActive_10 (th : Nat) : Nat → GS → Int32 → Option (Int32)
  | 0, _, _ => none
  | n + 1, σ, v3 =>
    if (nI (lnG (rfG th 2))) ≤ v3 then
     (
      some 0
     )
    else
     (
      if inB v3 (lnG (rfG th 2)) then
        (F_X3_isActive σ (rfG (rfG th 2) v3.toNatClampNeg)).bind fun o3 =>
        if o3 = 0 then
         (
          (L_X5_anyActive_10 th n) σ (v3 + 1)
         )
        else
         (
          some 1
         )
      else none
     )
def F_X5_anyActive (σ : GS) (th : Nat) : Option (Int32) :=
  L_X5_anyActive_10 th NF σ 0

def L_X5_countLoading_13 (th : Nat) : Nat → GS → Int32 → Int32 → Option (Int32)
  | 0, _, _, _ => none
  | n + 1, σ, v1, v4 =>
    if (nI (lnG (rfG th 2))) ≤ v4 then
     (
      some v1
     )
    else
     (
      if inB v4 (lnG (rfG th 2)) then
        (F_X3_isLoading σ (rfG (rfG th 2) v4.toNatClampNeg)).bind fun o3 =>
        if o3 = 0 then
         (
          (L_X5_countLoading_13 th n) σ v1 (v4 + 1)
         )
        else
         (
          (L_X5_countLoading_13 th n) σ (v1 + 1) (v4 + 1)
         )
      else none
     )
def F_X5_countLoading (σ : GS) (th : Nat) : Option (Int32) :=
  L_X5_countLoading_13 th NF σ 0 0

def L_X5_countDone_13 (th : Nat) : Nat → GS → Int32 → Int32 → Option (Int32)
  | 0, _, _, _ => none
  | n + 1, σ, v1, v4 =>
    if (nI (lnG (rfG th 2))) ≤ v4 then
     (
      some v1
     )
    else
     (
      if inB v4 (lnG (rfG th 2)) then
        if (gI σ (rfG (rfG th 2) v4.toNatClampNeg) 5) = 3 then
         (
          (L_X5_countDone_13 th n) σ (v1 + 1) (v4 + 1)
         )
        else
         (
          (L_X5_countDone_13 th n) σ v1 (v4 + 1)
         )
      else none
     )
def F_X5_countDone (σ : GS) (th : Nat) : Option (Int32) :=
  L_X5_countDone_13 th NF σ 0 0

def L_X5_ticksStalled_13 (th : Nat) : Nat → GS → Int32 → Int32 → Option (Int32)
  | 0, _, _, _ => none
  | n + 1, σ, v1, v4 =>
    if (nI (lnG (rfG th 2))) ≤ v4 then
     (
      some v1
     )
    else
     (
      if inB v4 (lnG (rfG th 2)) then
        (L_X5_ticksStalled_13 th n) σ (v1 + (gI σ (rfG (rfG th 2) v4.toNatClampNeg) 14)) (v4 + 1)
      else none
     )
def F_X5_ticksStalled (σ : GS) (th : Nat) : Option (Int32) :=
  L_X5_ticksStalled_13 th NF σ 0 0

def L_X5_segmentsCome_13 (th : Nat) : Nat → GS → Int32 → Int32 → Option (Int32)
  | 0, _, _, _ => none
  | n + 1, σ, v1, v4 =>
    if (nI (lnG (rfG th 2))) ≤ v4 then
     (
      some v1
     )
    else
     (
      if inB v4 (lnG (rfG th 2)) then
        (L_X5_segmentsCome_13 th n) σ (v1 + (gI σ (rfG (rfG th 2) v4.toNatClampNeg) 9)) (v4 + 1)
      else none
     )
def F_X5_segmentsCome (σ : GS) (th : Nat) : Option (Int32) :=
  L_X5_segmentsCome_13 th NF σ 0 0

def L_X6_setSegment_2 (th : Nat) (a1 : Int32) (a2 : Int32) : Nat → GS → Int32 → Option (GS)
  | 0, _, _ => none
  | n + 1, σ, v3 =>
    if (nI (lnG (rfG th 0))) ≤ v3 then
     (
      some σ
     )
    else
     (
      if ((a1 * 4) + v3) < 0 then
       (
        (L_X6_setSegment_2 th a1 a2 n) σ (v3 + 1)
       )
      else
       (
        if (nI (lnG (rfG th 1))) ≤ ((a1 * 4) + v3) then
         (
          (L_X6_setSegment_2 th a1 a2 n) σ (v3 + 1)
         )
        else
         (
          if inB v3 (lnG (rfG th 0)) then
            if (1 : Int32) ≤ (((gI σ (rfG th 0) v3.toNatClampNeg) * a2) / 100) then
             (
              if inB ((a1 * 4) + v3) (lnG (rfG th 1)) then
                let σ5 := sI σ (rfG th 1) ((a1 * 4) + v3).toNatClampNeg (((gI σ (rfG th 0) v3.toNatClampNeg) * a2) / 100)
                (L_X6_setSegment_2 th a1 a2 n) σ5 (v3 + 1)
              else none
             )
            else
             (
              if inB ((a1 * 4) + v3) (lnG (rfG th 1)) then
                let σ6 := sI σ (rfG th 1) ((a1 * 4) + v3).toNatClampNeg 1
                (L_X6_setSegment_2 th a1 a2 n) σ6 (v3 + 1)
              else none
             )
          else none
         )
       )
     )
def F_X6_setSegment (σ : GS) (th : Nat) (a1 : Int32) (a2 : Int32) : Option (GS) :=
  L_X6_setSegment_2 th a1 a2 NF σ 0

def F_X6_sizeOfSegment (σ : GS) (th : Nat) (a1 : Int32) (a2 : Int32) : Option (Int32) :=
  if ((a1 * 4) + a2) < 0 then
   (
    some 0
   )
  else
   (
    if (nI (lnG (rfG th 1))) ≤ ((a1 * 4) + a2) then
     (
      some 0
     )
    else
     (
      if inB ((a1 * 4) + a2) (lnG (rfG th 1)) then
        some (gI σ (rfG th 1) ((a1 * 4) + a2).toNatClampNeg)
      else none
     )
   )

def L_X6_greatestWithin_7 (th : Nat) (a1 : Int32) (a2 : Int32) : Nat → GS → Int32 → Option (Int32)
  | 0, _, _ => none
  | n + 1, σ, v3 =>
    if v3 ≤ 0 then
     (
      some 0
     )
    else
     (
      if ((a1 * 4) + v3) < 0 then
       (
        (L_X6_greatestWithin_7 th a1 a2 n) σ (v3 + (-1))
       )
      else
       (
        if (nI (lnG (rfG th 1))) ≤ ((a1 * 4) + v3) then
         (
          (L_X6_greatestWithin_7 th a1 a2 n) σ (v3 + (-1))
         )
        else
         (
          if inB ((a1 * 4) + v3) (lnG (rfG th 1)) then
            if a2 < ((gI σ (rfG th 1) ((a1 * 4) + v3).toNatClampNeg) * 100) then
             (
              (L_X6_greatestWithin_7 th a1 a2 n) σ (v3 + (-1))
             )
            else
             (
              some v3
             )
          else none
         )
       )
     )
def F_X6_greatestWithin (σ : GS) (th : Nat) (a1 : Int32) (a2 : Int32) : Option (Int32) :=
  L_X6_greatestWithin_7 th a1 a2 NF σ ((gI σ th 6) - 1)

def F_X7_append (σ : GS) (th : Nat) (a1 : Int32) (a2 : Int32) (a3 : Int32) (a4 : Int32) (a5 : Int32) : Option (GS × Int32) :=
  (F_X4_hasRoom σ (rfG th 0)).bind fun o2 =>
  if o2 = 0 then
   (
    some (σ, (-1))
   )
  else
   (
    (F_X4_addBytes σ (rfG th 0) a1).bind fun o4 =>
    (F_X4_addBytes o4 (rfG th 0) a2).bind fun o6 =>
    (F_X4_addBytes o6 (rfG th 0) a3).bind fun o8 =>
    (F_X4_addBytes o8 (rfG th 0) a4).bind fun o10 =>
    (F_X4_addBytes o10 (rfG th 0) a5).bind fun o12 =>
    some (o12, gI o12 (rfG th 0) 2)
   )

def F_X7_size (σ : GS) (th : Nat) (a1 : Int32) : Option (Int32) :=
  if a1 = 0 then
   (
    some (gI σ (rfG th 1) 10)
   )
  else
  if a1 = 1 then
   (
    some (gI σ (rfG th 1) 8)
   )
  else
  if a1 = 2 then
   (
    some (gI σ (rfG th 1) 4)
   )
  else
  if a1 = 3 then
   (
    some (gI σ (rfG th 1) 5)
   )
  else
  if a1 = 4 then
   (
    some (gI σ (rfG th 1) 6)
   )
  else
  if a1 = 5 then
   (
    some (gI σ (rfG th 1) 7)
   )
  else
  if a1 = 6 then
   (
    some (gI σ (rfG th 1) 9)
   )
  else
  if a1 = 7 then
   (
    some (gI σ (rfG th 2) 3)
   )
  else
  if a1 = 8 then
   (
    (F_X5_countLoading σ (rfG th 2)).bind fun o10 =>
    some o10
   )
  else
  if a1 = 9 then
   (
    (F_X5_countDone σ (rfG th 2)).bind fun o12 =>
    some o12
   )
  else
  if a1 = 10 then
   (
    some (gI σ (rfG th 4) 2)
   )
  else
  none

def F_X7_rate (σ : GS) (th : Nat) (a1 : Int32) : Option (Int32) :=
  if (0 : Int32) ≤ a1 then
   (
    (F_X5_rateAt σ (rfG th 2) a1).bind fun o2 =>
    some o2
   )
  else
   (
    none
   )

def L_X7_fairness_21 (th : Nat) : Nat → GS → UInt64 → UInt64 → Int32 → Option (UInt64)
  | 0, _, _, _, _ => none
  | n + 1, σ, v1, v3, v7 =>
    if (nI (lnG (rfG (rfG th 2) 2))) ≤ v7 then
     (
      if (Op.cmpValue (FP.dcmp v3 FP.dconst0) CmpOp.l) ≤ 0 then
       (
        some FP.dconst1
       )
      else
       (
        if (gI σ (rfG th 1) 10) ≤ 0 then
         (
          some FP.dconst1
         )
        else
         (
          if nN (FP.dmul v1 v1) then
            if nN (FP.dmul (FP.i2d (gI σ (rfG th 1) 10)) v3) then
              if nN (FP.ddiv (FP.dmul v1 v1) (FP.dmul (FP.i2d (gI σ (rfG th 1) 10)) v3)) then
                some (FP.ddiv (FP.dmul v1 v1) (FP.dmul (FP.i2d (gI σ (rfG th 1) 10)) v3))
              else none
            else none
          else none
         )
       )
     )
    else
     (
      if inB v7 (lnG (rfG (rfG th 2) 2)) then
        if (gI σ (rfG (rfG (rfG th 2) 2) v7.toNatClampNeg) 7) ≤ 0 then
         (
          (L_X7_fairness_21 th n) σ v1 v3 (v7 + 1)
         )
        else
         (
          if nN (FP.ddiv (FP.i2d (gI σ (rfG (rfG (rfG th 2) 2) v7.toNatClampNeg) 16)) (FP.i2d (gI σ (rfG (rfG (rfG th 2) 2) v7.toNatClampNeg) 7))) then
            if nN (FP.dadd v1 (FP.ddiv (FP.i2d (gI σ (rfG (rfG (rfG th 2) 2) v7.toNatClampNeg) 16)) (FP.i2d (gI σ (rfG (rfG (rfG th 2) 2) v7.toNatClampNeg) 7)))) then
              if nN (FP.dmul (FP.ddiv (FP.i2d (gI σ (rfG (rfG (rfG th 2) 2) v7.toNatClampNeg) 16)) (FP.i2d (gI σ (rfG (rfG (rfG th 2) 2) v7.toNatClampNeg) 7))) (FP.ddiv (FP.i2d (gI σ (rfG (rfG (rfG th 2) 2) v7.toNatClampNeg) 16)) (FP.i2d (gI σ (rfG (rfG (rfG th 2) 2) v7.toNatClampNeg) 7)))) then
                if nN (FP.dadd v3 (FP.dmul (FP.ddiv (FP.i2d (gI σ (rfG (rfG (rfG th 2) 2) v7.toNatClampNeg) 16)) (FP.i2d (gI σ (rfG (rfG (rfG th 2) 2) v7.toNatClampNeg) 7))) (FP.ddiv (FP.i2d (gI σ (rfG (rfG (rfG th 2) 2) v7.toNatClampNeg) 16)) (FP.i2d (gI σ (rfG (rfG (rfG th 2) 2) v7.toNatClampNeg) 7))))) then
                  (L_X7_fairness_21 th n) σ (FP.dadd v1 (FP.ddiv (FP.i2d (gI σ (rfG (rfG (rfG th 2) 2) v7.toNatClampNeg) 16)) (FP.i2d (gI σ (rfG (rfG (rfG th 2) 2) v7.toNatClampNeg) 7)))) (FP.dadd v3 (FP.dmul (FP.ddiv (FP.i2d (gI σ (rfG (rfG (rfG th 2) 2) v7.toNatClampNeg) 16)) (FP.i2d (gI σ (rfG (rfG (rfG th 2) 2) v7.toNatClampNeg) 7))) (FP.ddiv (FP.i2d (gI σ (rfG (rfG (rfG th 2) 2) v7.toNatClampNeg) 16)) (FP.i2d (gI σ (rfG (rfG (rfG th 2) 2) v7.toNatClampNeg) 7))))) (v7 + 1)
                else none
              else none
            else none
          else none
         )
      else none
     )
def F_X7_fairness (σ : GS) (th : Nat) : Option (UInt64) :=
  L_X7_fairness_21 th NF σ FP.dconst0 FP.dconst0 0

def F_X7_account (σ : GS) (th : Nat) (a1 : Int32) : Option (Int32) :=
  if a1 = 0 then
   (
    some (gI σ (rfG th 2) 4)
   )
  else
  if a1 = 1 then
   (
    some (gI σ (rfG th 2) 5)
   )
  else
  if a1 = 2 then
   (
    (F_X5_ticksStalled σ (rfG th 2)).bind fun o4 =>
    some o4
   )
  else
  if a1 = 3 then
   (
    (F_X5_segmentsCome σ (rfG th 2)).bind fun o6 =>
    some o6
   )
  else
  none

def F_X7_testPlayer (σ : GS) (th : Nat) (a1 : Int32) : Option (GS) :=
  if a1 < 0 then
   (
    none
   )
  else
   (
    if a1 < (gI σ (rfG th 1) 10) then
     (
      some σ
     )
    else
     (
      none
     )
   )

def F_X7_seatOf (σ : GS) (th : Nat) (a1 : Int32) : Option (Nat) :=
  (F_X7_testPlayer σ th a1).bind fun o1 =>
  (F_X5_seat o1 (rfG th 2) a1).bind fun o3 =>
  some o3

def L_X7_copyRow_2 (a1 : Nat) (a2 : Nat) : Nat → GS → Int32 → Option (GS)
  | 0, _, _ => none
  | n + 1, σ, v2 =>
    if (nI (lnG a1)) ≤ v2 then
     (
      some σ
     )
    else
     (
      if (nI (lnG a2)) ≤ v2 then
       (
        some σ
       )
      else
       (
        if inB v2 (lnG a1) then
          if inB v2 (lnG a2) then
            let σ1 := sI σ a2 v2.toNatClampNeg (gI σ a1 v2.toNatClampNeg)
            (L_X7_copyRow_2 a1 a2 n) σ1 (v2 + 1)
          else none
        else none
       )
     )
def F_X7_copyRow (σ : GS) (a1 : Nat) (a2 : Nat) : Option (GS) :=
  L_X7_copyRow_2 a1 a2 NF σ 0

def L_X7_clearRow_2 (a1 : Nat) : Nat → GS → Int32 → Option (GS)
  | 0, _, _ => none
  | n + 1, σ, v1 =>
    if (nI (lnG a1)) ≤ v1 then
     (
      some σ
     )
    else
     (
      if inB v1 (lnG a1) then
        let σ1 := sI σ a1 v1.toNatClampNeg 0
        (L_X7_clearRow_2 a1 n) σ1 (v1 + 1)
      else none
     )
def F_X7_clearRow (σ : GS) (a1 : Nat) : Option (GS) :=
  L_X7_clearRow_2 a1 NF σ 0

def J_X1_setAllSegments_73 (r10 : GS → Int32 → Option (GS)) (r23 : GS → Int32 → Nat → Int32 → Option (GS)) (th : Nat) (σ : GS) (v3 : Int32) (v4 : Nat) (v5 : Int32) (v6 : Int32) (u0 : Int32) : Option (GS) :=
  if u0 = 0 then
   (
    (F_X6_setSegment σ v4 v5 100).bind fun o4 =>
    r23 o4 v3 v4 (v5 + 1)
   )
  else
   (
    if inB v6 (lnG (rfG th 2)) then
      (F_X6_setSegment σ v4 v5 (gI σ (rfG th 2) v6.toNatClampNeg)).bind fun o6 =>
      r23 o6 v3 v4 (v5 + 1)
    else none
   )
def J_X1_setAllSegments_72 (r10 : GS → Int32 → Option (GS)) (r23 : GS → Int32 → Nat → Int32 → Option (GS)) (th : Nat) (σ : GS) (v3 : Int32) (v4 : Nat) (v5 : Int32) (v6 : Int32) : Option (GS) :=
  J_X1_setAllSegments_73 r10 r23 th σ v3 v4 v5 v6 0
def J_X1_setAllSegments_51 (r10 : GS → Int32 → Option (GS)) (r23 : GS → Int32 → Nat → Int32 → Option (GS)) (th : Nat) (σ : GS) (v3 : Int32) (v4 : Nat) (v5 : Int32) (u0 : Int32) : Option (GS) :=
  if u0 < 0 then
   (
    J_X1_setAllSegments_72 r10 r23 th σ v3 v4 v5 u0
   )
  else
   (
    if (nI (lnG (rfG th 2))) ≤ u0 then
     (
      J_X1_setAllSegments_72 r10 r23 th σ v3 v4 v5 u0
     )
    else
     (
      J_X1_setAllSegments_73 r10 r23 th σ v3 v4 v5 u0 1
     )
   )
def L_X1_setAllSegments_23 (r10 : GS → Int32 → Option (GS)) (th : Nat) : Nat → GS → Int32 → Nat → Int32 → Option (GS)
  | 0, _, _, _, _ => none
  | n + 1, σ, v3, v4, v5 =>
    if (gI σ v4 4) ≤ v5 then
     (
      r10 σ (v3 + 1)
     )
    else
     (
      if (gI σ th 9) ≤ 0 then
       (
        J_X1_setAllSegments_51 r10 (L_X1_setAllSegments_23 r10 th n) th σ v3 v4 v5 (-1)
       )
      else
       (
        if ¬ (gI σ th 9) = 0 then
          J_X1_setAllSegments_51 r10 (L_X1_setAllSegments_23 r10 th n) th σ v3 v4 v5 (v5 - v5 / (gI σ th 9) * (gI σ th 9))
        else none
       )
     )
def L_X1_setAllSegments_10 (th : Nat) : Nat → GS → Int32 → Option (GS)
  | 0, _, _ => none
  | n + 1, σ, v3 =>
    if (nI (lnG (rfG th 3))) ≤ v3 then
     (
      some σ
     )
    else
     (
      if inB v3 (lnG (rfG th 3)) then
        L_X1_setAllSegments_23 (L_X1_setAllSegments_10 th n) th NF σ v3 (rfG (rfG th 3) v3.toNatClampNeg) 0
      else none
     )
def F_X1_setAllSegments (σ : GS) (th : Nat) : Option (GS) :=
  L_X1_setAllSegments_10 th NF σ 0

def F_X3_copyFrom (σ : GS) (th : Nat) (a1 : Nat) : Option (GS) :=
  (F_X7_copyRow σ (rfG a1 2) (rfG th 2)).bind fun o3 =>
  (F_X7_copyRow o3 (rfG a1 3) (rfG th 3)).bind fun o6 =>
  (F_X7_copyRow o6 (rfG a1 4) (rfG th 4)).bind fun o9 =>
  let σ10 := sI o9 th 5 (gI o9 a1 5)
  let σ11 := sI σ10 th 6 (gI σ10 a1 6)
  let σ12 := sI σ11 th 7 (gI σ11 a1 7)
  let σ13 := sI σ12 th 8 (gI σ12 a1 8)
  let σ14 := sI σ13 th 9 (gI σ13 a1 9)
  let σ15 := sI σ14 th 10 (gI σ14 a1 10)
  let σ16 := sI σ15 th 11 (gI σ15 a1 11)
  let σ17 := sI σ16 th 12 (gI σ16 a1 12)
  let σ18 := sI σ17 th 13 (gI σ17 a1 13)
  let σ19 := sI σ18 th 14 (gI σ18 a1 14)
  let σ20 := sI σ19 th 15 (gI σ19 a1 15)
  let σ21 := sI σ20 th 16 (gI σ20 a1 16)
  let σ22 := sI σ21 th 17 (gI σ21 a1 17)
  let σ23 := sR σ22 th 18 (none)
  some σ23

def J_X3_choose_28 (th : Nat) (σ : GS) (v1 : Int32) : Option (Int32) :=
  if (gI σ th 6) = 1 then
   (
    (F_X3_byBuffer σ th).bind fun o7 =>
    some o7
   )
  else
  if (gI σ th 6) = 2 then
   (
    (F_X3_budget σ th).bind fun o9 =>
    (F_X6_greatestWithin σ (rfG th 1) v1 o9).bind fun o10 =>
    some o10
   )
  else
  if (gI σ th 6) = 3 then
   (
    (F_X3_byBuffer σ th).bind fun o11 =>
    (F_X3_budget σ th).bind fun o13 =>
    (F_X6_greatestWithin σ (rfG th 1) v1 o13).bind fun o14 =>
    some (if o14 < o11 then o14 else o11)
   )
  else
  some 0
def F_X3_choose (σ : GS) (th : Nat) : Option (Int32) :=
  (F_X3_segmentsAsked σ th).bind fun o1 =>
  if gR σ th 18 = none then
   (
    J_X3_choose_28 th σ o1
   )
  else
   (
    (gR σ th 18).bind fun _ =>
    if (nI (lnG 57)) ≤ o1 then
     (
      J_X3_choose_28 th σ o1
     )
    else
     (
      (gR σ th 18).bind fun _ =>
      if inB o1 (lnG 57) then
        some (gI σ 57 o1.toNatClampNeg)
      else none
     )
   )

def J_X3_finishLoad_95 (th : Nat) (a1 : Int32) (σ : GS) (u0 : Int32) : Option (GS) :=
  let σ10 := sI σ th 17 u0
  let σ11 := sI σ10 th 9 ((gI σ10 th 9) + 1)
  let σ12 := sI σ11 th 10 (-1)
  let σ14 := sI σ12 th 8 ((gI σ12 th 8) + (gI σ12 (rfG th 0) 4))
  some σ14
def F_X3_finishLoad (σ : GS) (th : Nat) (a1 : Int32) : Option (GS) :=
  (F_X3_isLoading σ th).bind fun o1 =>
  if o1 = 0 then
   (
    some σ
   )
  else
   (
    if (0 : Int32) < (gI σ th 11) then
     (
      some σ
     )
    else
     (
      if (gI σ th 9) < 30 then
       (
        if inB (gI σ th 9) (lnG (rfG th 2)) then
          let σ3 := sI σ (rfG th 2) (gI σ th 9).toNatClampNeg (gI σ th 10)
          if inB (gI σ3 th 9) (lnG (rfG th 3)) then
            let σ5 := sI σ3 (rfG th 3) (gI σ3 th 9).toNatClampNeg (gI σ3 th 12)
            if inB (gI σ5 th 9) (lnG (rfG th 4)) then
              let σ7 := sI σ5 (rfG th 4) (gI σ5 th 9).toNatClampNeg a1
              if ((a1 - (gI σ7 th 12)) + 1) ≤ 0 then
               (
                J_X3_finishLoad_95 th a1 σ7 0
               )
              else
               (
                (F_X6_sizeOfSegment σ7 (rfG th 1) (gI σ7 th 9) (gI σ7 th 10)).bind fun o9 =>
                if ¬ ((a1 - (gI σ7 th 12)) + 1) = 0 then
                  J_X3_finishLoad_95 th a1 σ7 (o9 / ((a1 - (gI σ7 th 12)) + 1))
                else none
               )
            else none
          else none
        else none
       )
      else
       (
        some σ
       )
     )
   )

def F_X3_bytesOfLoad (σ : GS) (th : Nat) : Option (Int32) :=
  if (gI σ th 10) = (-1) then
   (
    some 0
   )
  else
   (
    (F_X6_sizeOfSegment σ (rfG th 1) (gI σ th 9) (gI σ th 10)).bind fun o2 =>
    some (o2 - (gI σ th 11))
   )

def J_X3_addsUp_47 (th : Nat) (σ : GS) (v1 : Int32) : Option (Int32) :=
  if v1 = (gI σ th 16) then
   (
    if ((gI σ th 13) + (gI σ th 8)) = ((gI σ th 9) * (gI σ (rfG th 0) 4)) then
     (
      some 1
     )
    else
     (
      some 0
     )
   )
  else
   (
    some 0
   )
def L_X3_addsUp_7 (th : Nat) : Nat → GS → Int32 → Int32 → Option (Int32)
  | 0, _, _, _ => none
  | n + 1, σ, v1, v2 =>
    if (gI σ th 9) ≤ v2 then
     (
      J_X3_addsUp_47 th σ v1
     )
    else
     (
      if (nI (lnG (rfG th 2))) ≤ v2 then
       (
        J_X3_addsUp_47 th σ v1
       )
      else
       (
        if inB v2 (lnG (rfG th 2)) then
          (F_X6_sizeOfSegment σ (rfG th 1) v2 (gI σ (rfG th 2) v2.toNatClampNeg)).bind fun o5 =>
          (L_X3_addsUp_7 th n) σ (v1 + o5) (v2 + 1)
        else none
       )
     )
def F_X3_addsUp (σ : GS) (th : Nat) : Option (Int32) :=
  (F_X3_bytesOfLoad σ th).bind fun o1 =>
  L_X3_addsUp_7 th NF σ o1 0

def F_X4_testNumber (σ : GS) (th : Nat) (a1 : Int32) (a2 : Int32) : Option (GS) :=
  if (gI σ th 6) = 2 then
   (
    if (gI σ th 9) < a1 then
     (
      (F_X4_fail σ th 3).bind fun o1 =>
      some o1
     )
    else
     (
      if (gI σ th 9) ≤ a2 then
       (
        some σ
       )
      else
       (
        (F_X4_fail σ th 3).bind fun o2 =>
        some o2
       )
     )
   )
  else
   (
    (F_X4_fail σ th 1).bind fun o3 =>
    some o3
   )

def F_X4_isWord (σ : GS) (th : Nat) (a1 : Nat) : Option (Int32) :=
  if (gI σ th 6) = 1 then
   (
    (F_X4_packed σ a1).bind fun o1 =>
    if (lg_cmp (gL σ th 10) o1) = 0 then
     (
      some 1
     )
    else
     (
      some 0
     )
   )
  else
   (
    some 0
   )

def J_X4_readToken_164 (th : Nat) (σ : GS) : Option (GS) :=
  if (8 : Int32) < ((gI σ th 8) - (gI σ th 7)) then
   (
    let σ27 := sI σ th 6 4
    some σ27
   )
  else
   (
    let σ28 := sI σ th 6 1
    some σ28
   )
def L_X4_readToken_105 (th : Nat) : Nat → GS → Option (GS)
  | 0, _ => none
  | n + 1, σ =>
    if (gI σ th 5) ≤ (gI σ th 8) then
     (
      J_X4_readToken_164 th σ
     )
    else
     (
      (F_X4_byteAt σ th (gI σ th 8)).bind fun o20 =>
      (F_X4_isLetter σ o20).bind fun o21 =>
      if o21 = 0 then
       (
        J_X4_readToken_164 th σ
       )
      else
       (
        (F_X4_byteAt σ th (gI σ th 8)).bind fun o22 =>
        let σ23 := sL σ th 10 (((gL σ th 10) <<< ((8 : Int32).toInt64 &&& 63)) ||| o22.toInt64)
        let σ24 := sI σ23 th 8 ((gI σ23 th 8) + 1)
        (L_X4_readToken_105 th n) σ24
       )
     )
def J_X4_readToken_258 (th : Nat) (σ : GS) : Option (GS) :=
  if (4 : Int32) < ((gI σ th 8) - (gI σ th 7)) then
   (
    let σ25 := sI σ th 6 4
    some σ25
   )
  else
   (
    let σ26 := sI σ th 6 2
    some σ26
   )
def L_X4_readToken_197 (th : Nat) : Nat → GS → Option (GS)
  | 0, _ => none
  | n + 1, σ =>
    if (gI σ th 5) ≤ (gI σ th 8) then
     (
      J_X4_readToken_258 th σ
     )
    else
     (
      (F_X4_byteAt σ th (gI σ th 8)).bind fun o15 =>
      (F_X4_isDigit σ o15).bind fun o16 =>
      if o16 = 0 then
       (
        J_X4_readToken_258 th σ
       )
      else
       (
        (F_X4_byteAt σ th (gI σ th 8)).bind fun o17 =>
        let σ18 := sI σ th 9 ((((gI σ th 9) * 10) + o17) - 48)
        let σ19 := sI σ18 th 8 ((gI σ18 th 8) + 1)
        (L_X4_readToken_197 th n) σ19
       )
     )
def J_X4_readToken_58 (th : Nat) (σ : GS) : Option (GS) :=
  let σ5 := sI σ th 7 (gI σ th 8)
  let σ6 := sL σ5 th 10 0
  let σ7 := sI σ6 th 9 0
  (F_X4_byteAt σ7 th (gI σ7 th 7)).bind fun o8 =>
  if o8 = (-1) then
   (
    let σ14 := sI σ7 th 6 0
    some σ14
   )
  else
   (
    (F_X4_isLetter σ7 o8).bind fun o9 =>
    if o9 = 0 then
     (
      (F_X4_isDigit σ7 o8).bind fun o10 =>
      if o10 = 0 then
       (
        let σ11 := sI σ7 th 8 ((gI σ7 th 8) + 1)
        if o8 = 59 then
         (
          let σ13 := sI σ11 th 6 3
          some σ13
         )
        else
         (
          let σ12 := sI σ11 th 6 4
          some σ12
         )
       )
      else
       (
        L_X4_readToken_197 th NF σ7
       )
     )
    else
     (
      L_X4_readToken_105 th NF σ7
     )
   )
def L_X4_readToken_8 (th : Nat) : Nat → GS → Option (GS)
  | 0, _ => none
  | n + 1, σ =>
    if (gI σ th 5) ≤ (gI σ th 8) then
     (
      J_X4_readToken_58 th σ
     )
    else
     (
      (F_X4_byteAt σ th (gI σ th 8)).bind fun o1 =>
      if o1 = 32 then
       (
        let σ2 := sI σ th 8 ((gI σ th 8) + 1)
        (L_X4_readToken_8 th n) σ2
       )
      else
       (
        (F_X4_byteAt σ th (gI σ th 8)).bind fun o3 =>
        if o3 = 10 then
         (
          let σ4 := sI σ th 8 ((gI σ th 8) + 1)
          (L_X4_readToken_8 th n) σ4
         )
        else
         (
          J_X4_readToken_58 th σ
         )
       )
     )
def F_X4_readToken (σ : GS) (th : Nat) : Option (GS) :=
  if (gI σ th 4) = 0 then
   (
    L_X4_readToken_8 th NF σ
   )
  else
   (
    some σ
   )

def L_X5_begin_16 (th : Nat) : Nat → GS → Int32 → Option (GS)
  | 0, _, _ => none
  | n + 1, σ, v1 =>
    if (nI (lnG (rfG th 2))) ≤ v1 then
     (
      let σ6 := sI σ th 3 0
      let σ7 := sI σ6 th 4 0
      let σ8 := sI σ7 th 5 0
      let σ9 := sI σ8 th 6 (-1)
      some σ9
     )
    else
     (
      if inB v1 (lnG (rfG th 2)) then
        if (gI σ (rfG th 0) 10) ≤ v1 then
         (
          (F_X3_begin σ (rfG (rfG th 2) v1.toNatClampNeg) 0).bind fun o13 =>
          (L_X5_begin_16 th n) o13 (v1 + 1)
         )
        else
         (
          (F_X3_begin σ (rfG (rfG th 2) v1.toNatClampNeg) 1).bind fun o14 =>
          (L_X5_begin_16 th n) o14 (v1 + 1)
         )
      else none
     )
def F_X5_begin (σ : GS) (th : Nat) : Option (GS) :=
  (F_X7_copyRow σ (rfG (rfG th 0) 1) (rfG th 1)).bind fun o4 =>
  L_X5_begin_16 th NF o4 0

def J_X5_copyFrom_52 (th : Nat) (a1 : Nat) (σ : GS) : Option (GS) :=
  let σ11 := sI σ th 3 (gI σ a1 3)
  let σ12 := sI σ11 th 4 (gI σ11 a1 4)
  let σ13 := sI σ12 th 5 (gI σ12 a1 5)
  let σ14 := sI σ13 th 6 (-1)
  some σ14
def L_X5_copyFrom_13 (th : Nat) (a1 : Nat) : Nat → GS → Int32 → Option (GS)
  | 0, _, _ => none
  | n + 1, σ, v2 =>
    if (nI (lnG (rfG th 2))) ≤ v2 then
     (
      J_X5_copyFrom_52 th a1 σ
     )
    else
     (
      if (nI (lnG (rfG a1 2))) ≤ v2 then
       (
        J_X5_copyFrom_52 th a1 σ
       )
      else
       (
        if inB v2 (lnG (rfG th 2)) then
          if inB v2 (lnG (rfG a1 2)) then
            (F_X3_copyFrom σ (rfG (rfG th 2) v2.toNatClampNeg) (rfG (rfG a1 2) v2.toNatClampNeg)).bind fun o10 =>
            (L_X5_copyFrom_13 th a1 n) o10 (v2 + 1)
          else none
        else none
       )
     )
def F_X5_copyFrom (σ : GS) (th : Nat) (a1 : Nat) : Option (GS) :=
  (F_X7_copyRow σ (rfG a1 1) (rfG th 1)).bind fun o3 =>
  L_X5_copyFrom_13 th a1 NF o3 0

def J_X5_shareLink_61 (th : Nat) (a1 : Int32) (σ : GS) (v2 : Int32) : Option (GS) :=
  let σ6 := sI σ th 4 ((gI σ th 4) + (a1 - v2))
  let σ7 := sI σ6 th 5 ((gI σ6 th 5) + v2)
  some σ7
def L_X5_shareLink_10 (th : Nat) (a1 : Int32) : Nat → GS → Int32 → Int32 → Int32 → Option (GS)
  | 0, _, _, _, _ => none
  | n + 1, σ, v2, v3, v4 =>
    if a1 ≤ v4 then
     (
      J_X5_shareLink_61 th a1 σ v2
     )
    else
     (
      if v2 ≤ 0 then
       (
        J_X5_shareLink_61 th a1 σ v2
       )
      else
       (
        if v3 ≤ 0 then
         (
          J_X5_shareLink_61 th a1 σ v2
         )
        else
         (
          (F_X5_giveByWeight σ th v2 v3).bind fun o2 =>
          if o2.2 ≤ 0 then
           (
            (F_X5_giveSingly o2.1 th v2).bind fun o3 =>
            (F_X5_weightsInNeed o3.1 th).bind fun o4 =>
            (L_X5_shareLink_10 th a1 n) o3.1 (v2 - o3.2) o4 (v4 + 1)
           )
          else
           (
            (F_X5_weightsInNeed o2.1 th).bind fun o5 =>
            (L_X5_shareLink_10 th a1 n) o2.1 (v2 - o2.2) o5 (v4 + 1)
           )
         )
       )
     )
def F_X5_shareLink (σ : GS) (th : Nat) (a1 : Int32) : Option (GS) :=
  (F_X5_weightsInNeed σ th).bind fun o1 =>
  L_X5_shareLink_10 th a1 NF σ a1 o1 0

def L_X5_addsUp_13 (th : Nat) : Nat → GS → Int32 → Int32 → Option (Int32)
  | 0, _, _, _ => none
  | n + 1, σ, v1, v4 =>
    if (nI (lnG (rfG th 2))) ≤ v4 then
     (
      if v1 = (gI σ th 4) then
       (
        some 1
       )
      else
       (
        some 0
       )
     )
    else
     (
      if inB v4 (lnG (rfG th 2)) then
        (F_X3_addsUp σ (rfG (rfG th 2) v4.toNatClampNeg)).bind fun o3 =>
        if o3 = 0 then
         (
          some 0
         )
        else
         (
          (L_X5_addsUp_13 th n) σ (v1 + (gI σ (rfG (rfG th 2) v4.toNatClampNeg) 16)) (v4 + 1)
         )
      else none
     )
def F_X5_addsUp (σ : GS) (th : Nat) : Option (Int32) :=
  L_X5_addsUp_13 th NF σ 0 0

def F_X6_clear (σ : GS) (th : Nat) : Option (GS) :=
  (F_X7_clearRow σ (rfG th 0)).bind fun o2 =>
  (F_X7_clearRow o2 (rfG th 1)).bind fun o4 =>
  let σ5 := sL o4 th 2 0
  let σ6 := sI σ5 th 3 0
  let σ7 := sI σ6 th 4 0
  let σ8 := sI σ7 th 5 1
  let σ9 := sI σ8 th 6 0
  let σ10 := sI σ9 th 7 0
  let σ11 := sI σ10 th 8 0
  some σ11

def F_X6_copyFrom (σ : GS) (th : Nat) (a1 : Nat) : Option (GS) :=
  (F_X7_copyRow σ (rfG a1 0) (rfG th 0)).bind fun o3 =>
  (F_X7_copyRow o3 (rfG a1 1) (rfG th 1)).bind fun o6 =>
  let σ7 := sL o6 th 2 (gL o6 a1 2)
  let σ8 := sI σ7 th 3 (gI σ7 a1 3)
  let σ9 := sI σ8 th 4 (gI σ8 a1 4)
  let σ10 := sI σ9 th 5 (gI σ9 a1 5)
  let σ11 := sI σ10 th 6 (gI σ10 a1 6)
  let σ12 := sI σ11 th 7 (gI σ11 a1 7)
  if (gI σ12 a1 8) = 0 ∨ (gI σ12 a1 8) = 1 then
    let σ13 := sI σ12 th 8 (gI σ12 a1 8)
    some σ13
  else none

def F_X7_player (σ : GS) (th : Nat) (a1 : Int32) (a2 : Int32) : Option (Int32) :=
  (F_X7_seatOf σ th a1).bind fun o1 =>
  if a2 = 0 then
   (
    some (gI σ o1 5)
   )
  else
  if a2 = 1 then
   (
    some (gI σ o1 8)
   )
  else
  if a2 = 2 then
   (
    some (gI σ o1 9)
   )
  else
  if a2 = 3 then
   (
    some (gI σ o1 10)
   )
  else
  if a2 = 4 then
   (
    some (gI σ o1 11)
   )
  else
  if a2 = 5 then
   (
    some (gI σ o1 13)
   )
  else
  if a2 = 6 then
   (
    some (gI σ o1 14)
   )
  else
  if a2 = 7 then
   (
    some (gI σ o1 15)
   )
  else
  if a2 = 8 then
   (
    (F_X3_countSwitches σ o1).bind fun o3 =>
    some o3
   )
  else
  if a2 = 9 then
   (
    (F_X3_sumOfQualities σ o1).bind fun o4 =>
    some o4
   )
  else
  if a2 = 10 then
   (
    some (gI σ o1 16)
   )
  else
  if a2 = 11 then
   (
    some (gI σ o1 17)
   )
  else
  if a2 = 12 then
   (
    some (gI σ o1 6)
   )
  else
  if a2 = 13 then
   (
    some (gI σ o1 7)
   )
  else
  if a2 = 14 then
   (
    some (gI σ (rfG o1 1) 4)
   )
  else
  if a2 = 15 then
   (
    some (gI σ (rfG o1 1) 6)
   )
  else
  if a2 = 16 then
   (
    some (gI σ (rfG o1 1) 7)
   )
  else
  none

def F_X7_loaded (σ : GS) (th : Nat) (a1 : Int32) (a2 : Int32) (a3 : Int32) : Option (Int32) :=
  (F_X7_seatOf σ th a1).bind fun o1 =>
  if a3 < 0 then
   (
    none
   )
  else
   (
    if a3 ≤ 3 then
     (
      if a2 < 0 then
       (
        some (-1)
       )
      else
       (
        if (gI σ o1 9) ≤ a2 then
         (
          some (-1)
         )
        else
         (
          if a2 < 30 then
           (
            if a3 = 0 then
             (
              if inB a2 (lnG (rfG o1 2)) then
                some (gI σ (rfG o1 2) a2.toNatClampNeg)
              else none
             )
            else
            if a3 = 1 then
             (
              if inB a2 (lnG (rfG o1 2)) then
                (F_X6_sizeOfSegment σ (rfG o1 1) a2 (gI σ (rfG o1 2) a2.toNatClampNeg)).bind fun o7 =>
                some o7
              else none
             )
            else
            if a3 = 2 then
             (
              if inB a2 (lnG (rfG o1 3)) then
                some (gI σ (rfG o1 3) a2.toNatClampNeg)
              else none
             )
            else
            if inB a2 (lnG (rfG o1 4)) then
              some (gI σ (rfG o1 4) a2.toNatClampNeg)
            else none
           )
          else
           (
            some (-1)
           )
         )
       )
     )
    else
     (
      none
     )
   )

def F_X7_wouldChoose (σ : GS) (th : Nat) (a1 : Int32) : Option (Int32) :=
  (F_X7_seatOf σ th a1).bind fun o1 =>
  (F_X3_segmentsToAsk σ o1).bind fun o3 =>
  if o3 = 0 then
   (
    some (-1)
   )
  else
   (
    (F_X3_choose σ o1).bind fun o4 =>
    some o4
   )

def F_X7_meanQuality (σ : GS) (th : Nat) (a1 : Int32) : Option (UInt64) :=
  (F_X7_seatOf σ th a1).bind fun o1 =>
  if (gI σ o1 9) ≤ 0 then
   (
    some FP.dconst0
   )
  else
   (
    (F_X3_sumOfQualities σ o1).bind fun o3 =>
    if nN (FP.ddiv (FP.i2d o3) (FP.i2d (gI σ o1 9))) then
      some (FP.ddiv (FP.i2d o3) (FP.i2d (gI σ o1 9)))
    else none
   )

def F_X7_isWhole (σ : GS) (th : Nat) : Option (Int32) :=
  (F_X5_addsUp σ (rfG th 2)).bind fun o2 =>
  if o2 = 0 ∨ o2 = 1 then
    some o2
  else none

def J_X0_keep_32 (th : Nat) (a1 : Nat) (σ : GS) (u0 : Int32) : Option (GS) :=
  let σ2 := sI σ th 1 u0
  if inB (gI σ2 th 1) (lnG (rfG th 0)) then
    (F_X5_copyFrom σ2 (rfG (rfG th 0) (gI σ2 th 1).toNatClampNeg) a1).bind fun o5 =>
    if (nI (lnG (rfG th 0))) ≤ (gI o5 th 2) then
     (
      some o5
     )
    else
     (
      let σ7 := sI o5 th 2 ((gI o5 th 2) + 1)
      some σ7
     )
  else none
def J_X0_keep_31 (th : Nat) (a1 : Nat) (σ : GS) : Option (GS) :=
  J_X0_keep_32 th a1 σ 0
def F_X0_keep (σ : GS) (th : Nat) (a1 : Nat) : Option (GS) :=
  if (gI σ th 1) < 0 then
   (
    J_X0_keep_31 th a1 σ
   )
  else
   (
    if ((nI (lnG (rfG th 0))) - 1) ≤ (gI σ th 1) then
     (
      J_X0_keep_31 th a1 σ
     )
    else
     (
      J_X0_keep_32 th a1 σ ((gI σ th 1) + 1)
     )
   )

def L_X1_clear_31 (th : Nat) : Nat → GS → Int32 → Option (GS)
  | 0, _, _ => none
  | n + 1, σ, v3 =>
    if (nI (lnG (rfG th 3))) ≤ v3 then
     (
      let σ8 := sI σ th 4 1
      let σ9 := sI σ8 th 5 1
      let σ10 := sI σ9 th 6 1
      let σ11 := sI σ10 th 7 10
      let σ12 := sI σ11 th 8 0
      let σ13 := sI σ12 th 9 0
      let σ14 := sI σ13 th 10 0
      let σ15 := sI σ14 th 11 0
      some σ15
     )
    else
     (
      if inB v3 (lnG (rfG th 3)) then
        (F_X6_clear σ (rfG (rfG th 3) v3.toNatClampNeg)).bind fun o17 =>
        (L_X1_clear_31 th n) o17 (v3 + 1)
      else none
     )
def F_X1_clear (σ : GS) (th : Nat) : Option (GS) :=
  (F_X7_clearRow σ (rfG th 0)).bind fun o2 =>
  (F_X7_clearRow o2 (rfG th 1)).bind fun o4 =>
  (F_X7_clearRow o4 (rfG th 2)).bind fun o6 =>
  L_X1_clear_31 th NF o6 0

def J_X1_copyFrom_74 (th : Nat) (a1 : Nat) (σ : GS) : Option (GS) :=
  let σ17 := sI σ th 4 (gI σ a1 4)
  let σ18 := sI σ17 th 5 (gI σ17 a1 5)
  let σ19 := sI σ18 th 6 (gI σ18 a1 6)
  let σ20 := sI σ19 th 7 (gI σ19 a1 7)
  let σ21 := sI σ20 th 8 (gI σ20 a1 8)
  let σ22 := sI σ21 th 9 (gI σ21 a1 9)
  let σ23 := sI σ22 th 10 (gI σ22 a1 10)
  let σ24 := sI σ23 th 11 (gI σ23 a1 11)
  some σ24
def L_X1_copyFrom_35 (th : Nat) (a1 : Nat) : Nat → GS → Int32 → Option (GS)
  | 0, _, _ => none
  | n + 1, σ, v2 =>
    if (nI (lnG (rfG th 3))) ≤ v2 then
     (
      J_X1_copyFrom_74 th a1 σ
     )
    else
     (
      if (nI (lnG (rfG a1 3))) ≤ v2 then
       (
        J_X1_copyFrom_74 th a1 σ
       )
      else
       (
        if inB v2 (lnG (rfG th 3)) then
          if inB v2 (lnG (rfG a1 3)) then
            (F_X6_copyFrom σ (rfG (rfG th 3) v2.toNatClampNeg) (rfG (rfG a1 3) v2.toNatClampNeg)).bind fun o16 =>
            (L_X1_copyFrom_35 th a1 n) o16 (v2 + 1)
          else none
        else none
       )
     )
def F_X1_copyFrom (σ : GS) (th : Nat) (a1 : Nat) : Option (GS) :=
  (F_X7_copyRow σ (rfG a1 0) (rfG th 0)).bind fun o3 =>
  (F_X7_copyRow o3 (rfG a1 1) (rfG th 1)).bind fun o6 =>
  (F_X7_copyRow o6 (rfG a1 2) (rfG th 2)).bind fun o9 =>
  L_X1_copyFrom_35 th a1 NF o9 0

def F_X3_ask (σ : GS) (th : Nat) (a1 : Int32) : Option (GS) :=
  (F_X3_canAsk σ th a1).bind fun o1 =>
  if o1 = 0 then
   (
    some σ
   )
  else
   (
    (F_X3_choose σ th).bind fun o2 =>
    let σ3 := sI σ th 10 o2
    (F_X6_sizeOfSegment σ3 (rfG th 1) (gI σ3 th 9) (gI σ3 th 10)).bind fun o5 =>
    let σ6 := sI σ3 th 11 o5
    let σ7 := sI σ6 th 12 a1
    some σ7
   )

def J_X4_readSizes_65 (r4 : GS → Int32 → Int32 → Option (GS)) (th : Nat) (a1 : Nat) (σ : GS) (v3 : Int32) : Option (GS) :=
  if inB v3 (lnG (rfG a1 0)) then
    let σ6 := sI σ (rfG a1 0) v3.toNatClampNeg (gI σ th 9)
    let σ7 := sI σ6 a1 6 (v3 + 1)
    (F_X4_readToken σ7 th).bind fun o8 =>
    r4 o8 (gI σ7 th 9) (v3 + 1)
  else none
def J_X4_readSizes_28 (r4 : GS → Int32 → Int32 → Option (GS)) (th : Nat) (a1 : Nat) (σ : GS) (v2 : Int32) (v3 : Int32) : Option (GS) :=
  (F_X4_testNumber σ th 1 9999).bind fun o1 =>
  if v3 < (nI (lnG (rfG a1 0))) then
   (
    if v2 < (gI o1 th 9) then
     (
      J_X4_readSizes_65 r4 th a1 o1 v3
     )
    else
     (
      (F_X4_fail o1 th 6).bind fun o3 =>
      J_X4_readSizes_65 r4 th a1 o3 v3
     )
   )
  else
   (
    (F_X4_fail o1 th 5).bind fun o4 =>
    some o4
   )
def L_X4_readSizes_4 (th : Nat) (a1 : Nat) : Nat → GS → Int32 → Int32 → Option (GS)
  | 0, _, _, _ => none
  | n + 1, σ, v2, v3 =>
    if (4 : Int32) < v3 then
     (
      some σ
     )
    else
     (
      if (gI σ th 4) = 0 then
       (
        if v3 = 0 then
         (
          J_X4_readSizes_28 (L_X4_readSizes_4 th a1 n) th a1 σ v2 v3
         )
        else
         (
          if (gI σ th 6) = 2 then
           (
            J_X4_readSizes_28 (L_X4_readSizes_4 th a1 n) th a1 σ v2 v3
           )
          else
           (
            some σ
           )
         )
       )
      else
       (
        some σ
       )
     )
def F_X4_readSizes (σ : GS) (th : Nat) (a1 : Nat) : Option (GS) :=
  L_X4_readSizes_4 th a1 NF σ 0 0

def F_X4_takeNewName (σ : GS) (th : Nat) : Option (GS × Int64) :=
  if (gI σ th 6) = 1 then
   (
    (F_X1_indexOfName σ (rfG th 0) (gL σ th 10)).bind fun o2 =>
    if o2 = (-1) then
     (
      (F_X4_readToken σ th).bind fun o3 =>
      some (o3, gL σ th 10)
     )
    else
     (
      (F_X4_fail σ th 2).bind fun o4 =>
      (F_X4_readToken o4 th).bind fun o5 =>
      some (o5, gL o4 th 10)
     )
   )
  else
   (
    (F_X4_fail σ th 1).bind fun o6 =>
    (F_X4_readToken o6 th).bind fun o7 =>
    some (o7, gL o6 th 10)
   )

def J_X4_takeRule_53 (th : Nat) (σ : GS) (u0 : Int32) : Option (GS × Int32) :=
  if u0 = (-1) then
   (
    (F_X4_fail σ th 1).bind fun o6 =>
    (F_X4_readToken o6 th).bind fun o7 =>
    some (o7, u0)
   )
  else
   (
    (F_X4_readToken σ th).bind fun o5 =>
    some (o5, u0)
   )
def F_X4_takeRule (σ : GS) (th : Nat) : Option (GS × Int32) :=
  (F_X4_isWord σ th 5).bind fun o1 =>
  if o1 = 0 then
   (
    (F_X4_isWord σ th 6).bind fun o2 =>
    if o2 = 0 then
     (
      (F_X4_isWord σ th 7).bind fun o3 =>
      if o3 = 0 then
       (
        (F_X4_isWord σ th 8).bind fun o4 =>
        if o4 = 0 then
         (
          J_X4_takeRule_53 th σ (-1)
         )
        else
         (
          J_X4_takeRule_53 th σ 3
         )
       )
      else
       (
        J_X4_takeRule_53 th σ 2
       )
     )
    else
     (
      J_X4_takeRule_53 th σ 1
     )
   )
  else
   (
    J_X4_takeRule_53 th σ 0
   )

def F_X4_takeWord (σ : GS) (th : Nat) (a1 : Nat) : Option (GS) :=
  (F_X4_isWord σ th a1).bind fun o1 =>
  if o1 = 0 then
   (
    (F_X4_fail σ th 1).bind fun o3 =>
    (F_X4_readToken o3 th).bind fun o4 =>
    some o4
   )
  else
   (
    (F_X4_readToken σ th).bind fun o2 =>
    some o2
   )

def F_X4_takeSemicolon (σ : GS) (th : Nat) : Option (GS) :=
  if (gI σ th 6) = 3 then
   (
    (F_X4_readToken σ th).bind fun o1 =>
    some o1
   )
  else
   (
    (F_X4_fail σ th 1).bind fun o2 =>
    (F_X4_readToken o2 th).bind fun o3 =>
    some o3
   )

def F_X4_takeNumber (σ : GS) (th : Nat) (a1 : Int32) (a2 : Int32) : Option (GS × Int32) :=
  (F_X4_testNumber σ th a1 a2).bind fun o1 =>
  (F_X4_readToken o1 th).bind fun o2 =>
  some (o2, gI o1 th 9)

def L_X5_passTick_92 (th : Nat) : Nat → GS → Int32 → Option (GS)
  | 0, _, _ => none
  | n + 1, σ, v3 =>
    if (nI (lnG (rfG th 2))) ≤ v3 then
     (
      let σ10 := sI σ th 3 ((gI σ th 3) + 1)
      some σ10
     )
    else
     (
      if inB v3 (lnG (rfG th 2)) then
        (F_X3_play σ (rfG (rfG th 2) v3.toNatClampNeg) (gI σ th 3)).bind fun o12 =>
        (L_X5_passTick_92 th n) o12 (v3 + 1)
      else none
     )
def L_X5_passTick_57 (th : Nat) : Nat → GS → Int32 → Option (GS)
  | 0, _, _ => none
  | n + 1, σ, v3 =>
    if (nI (lnG (rfG th 2))) ≤ v3 then
     (
      L_X5_passTick_92 th NF σ 0
     )
    else
     (
      if inB v3 (lnG (rfG th 2)) then
        (F_X3_finishLoad σ (rfG (rfG th 2) v3.toNatClampNeg) (gI σ th 3)).bind fun o9 =>
        (L_X5_passTick_57 th n) o9 (v3 + 1)
      else none
     )
def L_X5_passTick_10 (th : Nat) : Nat → GS → Int32 → Option (GS)
  | 0, _, _ => none
  | n + 1, σ, v3 =>
    if (nI (lnG (rfG th 2))) ≤ v3 then
     (
      (F_X5_rateAt σ th (gI σ th 3)).bind fun o2 =>
      (F_X5_shareLink σ th o2).bind fun o3 =>
      L_X5_passTick_57 th NF o3 0
     )
    else
     (
      if inB v3 (lnG (rfG th 2)) then
        (F_X3_ask σ (rfG (rfG th 2) v3.toNatClampNeg) (gI σ th 3)).bind fun o6 =>
        (L_X5_passTick_10 th n) o6 (v3 + 1)
      else none
     )
def F_X5_passTick (σ : GS) (th : Nat) : Option (GS) :=
  L_X5_passTick_10 th NF σ 0

def L_X5_passToEnd_5 (th : Nat) : Nat → GS → Int32 → Option (GS)
  | 0, _, _ => none
  | n + 1, σ, v1 =>
    if (2000 : Int32) ≤ v1 then
     (
      some σ
     )
    else
     (
      (F_X5_anyActive σ th).bind fun o1 =>
      if o1 = 0 then
       (
        some σ
       )
      else
       (
        (F_X5_passTick σ th).bind fun o2 =>
        (L_X5_passToEnd_5 th n) o2 (v1 + 1)
       )
     )
def F_X5_passToEnd (σ : GS) (th : Nat) : Option (GS) :=
  L_X5_passToEnd_5 th NF σ (gI σ th 3)

def L_X7_run_56 (th : Nat) (a1 : Int32) : Nat → GS → Int32 → Option (GS × Int32)
  | 0, _, _ => none
  | n + 1, σ, v2 =>
    if a1 ≤ v2 then
     (
      some (σ, gI σ (rfG th 2) 3)
     )
    else
     (
      (F_X5_passTick σ (rfG th 2)).bind fun o7 =>
      (L_X7_run_56 th a1 n) o7 (v2 + 1)
     )
def F_X7_run (σ : GS) (th : Nat) (a1 : Int32) : Option (GS × Int32) :=
  if a1 < 1 then
   (
    none
   )
  else
   (
    if a1 ≤ 200 then
     (
      if ((gI σ (rfG th 2) 3) + a1) ≤ 2000 then
       (
        (F_X0_keep σ (rfG th 4) (rfG th 2)).bind fun o4 =>
        L_X7_run_56 th a1 NF o4 0
       )
      else
       (
        none
       )
     )
    else
     (
      none
     )
   )

def F_X7_setRule (σ : GS) (th : Nat) (a1 : Int32) (a2 : Int32) : Option (GS × Int32) :=
  (F_X7_seatOf σ th a1).bind fun o1 =>
  if a2 < 0 then
   (
    none
   )
  else
   (
    if a2 ≤ 3 then
     (
      (F_X0_keep σ (rfG th 4) (rfG th 2)).bind fun o5 =>
      let σ6 := sI o5 o1 6 a2
      some (σ6, gI o5 o1 6)
     )
    else
     (
      none
     )
   )

def F_X7_setWeight (σ : GS) (th : Nat) (a1 : Int32) (a2 : Int32) : Option (GS × Int32) :=
  (F_X7_seatOf σ th a1).bind fun o1 =>
  if a2 < 1 then
   (
    none
   )
  else
   (
    if a2 ≤ 9 then
     (
      (F_X0_keep σ (rfG th 4) (rfG th 2)).bind fun o5 =>
      let σ6 := sI o5 o1 7 a2
      some (σ6, gI o5 o1 7)
     )
    else
     (
      none
     )
   )

def F_X7_setRate (σ : GS) (th : Nat) (a1 : Int32) (a2 : Int32) : Option (GS × Int32) :=
  if a1 < 0 then
   (
    none
   )
  else
   (
    if (gI σ (rfG th 1) 8) ≤ a1 then
     (
      none
     )
    else
     (
      if a1 < (nI (lnG (rfG (rfG th 2) 1))) then
       (
        if a2 < 0 then
         (
          none
         )
        else
         (
          if a2 ≤ 9999 then
           (
            (F_X0_keep σ (rfG th 4) (rfG th 2)).bind fun o6 =>
            if inB a1 (lnG (rfG (rfG th 2) 1)) then
              if inB a1 (lnG (rfG (rfG th 2) 1)) then
                let σ11 := sI o6 (rfG (rfG th 2) 1) a1.toNatClampNeg a2
                some (σ11, gI o6 (rfG (rfG th 2) 1) a1.toNatClampNeg)
              else none
            else none
           )
          else
           (
            none
           )
         )
       )
      else
       (
        none
       )
     )
   )

def F_X7_quit (σ : GS) (th : Nat) (a1 : Int32) : Option (GS × Int32) :=
  (F_X7_seatOf σ th a1).bind fun o1 =>
  (F_X3_isActive σ o1).bind fun o3 =>
  if o3 = 0 then
   (
    none
   )
  else
   (
    (F_X0_keep σ (rfG th 4) (rfG th 2)).bind fun o6 =>
    let σ7 := sI o6 o1 5 4
    (F_X3_bytesOfLoad σ7 o1).bind fun o8 =>
    some (σ7, o8)
   )

def F_X2_afterOneTick (σ : GS) (th : Nat) : Option (GS × Nat) :=
  (F_X5_copyFrom σ (rfG th 2) (rfG th 0)).bind fun o3 =>
  (F_X5_passTick o3 (rfG th 2)).bind fun o5 =>
  some (o5, rfG th 2)

def F_X2_atEnd (σ : GS) (th : Nat) : Option (GS × Nat) :=
  (F_X5_copyFrom σ (rfG th 2) (rfG th 0)).bind fun o3 =>
  (F_X5_passToEnd o3 (rfG th 2)).bind fun o5 =>
  some (o5, rfG th 2)

def F_X2_atEndAsPlanned (σ : GS) (th : Nat) (a1 : Int32) : Option (GS × Nat) :=
  (F_X5_copyFrom σ (rfG th 2) (rfG th 0)).bind fun o3 =>
  (F_X5_seat o3 (rfG th 2) a1).bind fun o5 =>
  let σ8 := sR o3 o5 18 (some (rfG th 3))
  (F_X5_passToEnd σ8 (rfG th 2)).bind fun o10 =>
  some (o10, o5)

def J_X2_isSteady_86 (th : Nat) (a1 : Nat) (a2 : Int32) (σ : GS) (v3 : Int32) (v4 : Nat) : Option (GS × Int32) :=
  if (gI σ v4 5) = 3 then
   (
    if v3 < (gI σ v4 14) then
     (
      some (σ, 0)
     )
    else
     (
      some (σ, 1)
     )
   )
  else
   (
    some (σ, 0)
   )
def L_X2_isSteady_48 (th : Nat) (a1 : Nat) (a2 : Int32) : Nat → GS → Int32 → Nat → Int32 → Option (GS × Int32)
  | 0, _, _, _, _ => none
  | n + 1, σ, v3, v4, v5 =>
    if (2000 : Int32) ≤ v5 then
     (
      J_X2_isSteady_86 th a1 a2 σ v3 v4
     )
    else
     (
      (F_X3_isActive σ v4).bind fun o12 =>
      if o12 = 0 then
       (
        J_X2_isSteady_86 th a1 a2 σ v3 v4
       )
      else
       (
        if v3 < (gI σ v4 14) then
         (
          J_X2_isSteady_86 th a1 a2 σ v3 v4
         )
        else
         (
          (F_X5_passTick σ (rfG th 2)).bind fun o14 =>
          (L_X2_isSteady_48 th a1 a2 n) o14 v3 v4 (v5 + 1)
         )
       )
     )
def F_X2_isSteady (σ : GS) (th : Nat) (a1 : Nat) (a2 : Int32) : Option (GS × Int32) :=
  (F_X5_seat σ (rfG th 0) a2).bind fun o2 =>
  (F_X5_copyFrom σ (rfG th 2) a1).bind fun o5 =>
  (F_X5_seat o5 (rfG th 2) a2).bind fun o7 =>
  let σ10 := sR o5 o7 18 (some (rfG th 3))
  L_X2_isSteady_48 th a1 a2 NF σ10 (gI σ o2 14) o7 (gI σ10 (rfG th 2) 3)

def F_X4_readHead (σ : GS) (th : Nat) : Option (GS) :=
  (F_X4_takeWord σ th 0).bind fun o1 =>
  (F_X4_takeNumber o1 th 1 20).bind fun o3 =>
  let σ4 := sI o3.1 (rfG th 0) 4 o3.2
  (F_X4_takeNumber σ4 th 1 60).bind fun o6 =>
  let σ7 := sI o6.1 (rfG th 0) 5 o6.2
  (F_X4_takeNumber σ7 th 1 200).bind fun o9 =>
  let σ10 := sI o9.1 (rfG th 0) 6 o9.2
  (F_X4_takeNumber σ10 th 10 100).bind fun o12 =>
  let σ13 := sI o12.1 (rfG th 0) 7 o12.2
  (F_X4_takeSemicolon σ13 th).bind fun o14 =>
  some o14

def J_X4_readLink_17 (th : Nat) (σ : GS) : Option (GS) :=
  (F_X4_takeWord σ th 1).bind fun o3 =>
  (F_X4_takeNumber o3 th 1 200).bind fun o4 =>
  (F_X4_takeNumber o4.1 th 0 9999).bind fun o5 =>
  if (gI o5.1 th 4) = 0 then
   (
    (F_X1_addPiece o5.1 (rfG th 0) o4.2 o5.2).bind fun o7 =>
    some o7
   )
  else
   (
    some o5.1
   )
def F_X4_readLink (σ : GS) (th : Nat) : Option (GS) :=
  if (gI σ (rfG th 0) 8) < 8 then
   (
    J_X4_readLink_17 th σ
   )
  else
   (
    (F_X4_fail σ th 5).bind fun o2 =>
    J_X4_readLink_17 th o2
   )

def J_X4_readVary_66 (r23 : GS → Int32 → Option (GS)) (th : Nat) (σ : GS) (v1 : Int32) : Option (GS) :=
  if (gI σ th 4) = 0 then
   (
    (F_X1_addPercent σ (rfG th 0) (gI σ th 9)).bind fun o8 =>
    (F_X4_readToken o8 th).bind fun o9 =>
    r23 o9 (v1 + 1)
   )
  else
   (
    r23 σ (v1 + 1)
   )
def J_X4_readVary_47 (r23 : GS → Int32 → Option (GS)) (th : Nat) (σ : GS) (v1 : Int32) : Option (GS) :=
  (F_X4_testNumber σ th 50 200).bind fun o5 =>
  if v1 = 4 then
   (
    (F_X4_fail o5 th 5).bind fun o6 =>
    J_X4_readVary_66 r23 th o6 v1
   )
  else
   (
    J_X4_readVary_66 r23 th o5 v1
   )
def L_X4_readVary_23 (th : Nat) : Nat → GS → Int32 → Option (GS)
  | 0, _, _ => none
  | n + 1, σ, v1 =>
    if (4 : Int32) < v1 then
     (
      some σ
     )
    else
     (
      if (gI σ th 4) = 0 then
       (
        if v1 = 0 then
         (
          J_X4_readVary_47 (L_X4_readVary_23 th n) th σ v1
         )
        else
         (
          if (gI σ th 6) = 2 then
           (
            J_X4_readVary_47 (L_X4_readVary_23 th n) th σ v1
           )
          else
           (
            some σ
           )
         )
       )
      else
       (
        some σ
       )
     )
def F_X4_readVary (σ : GS) (th : Nat) : Option (GS) :=
  if (gI σ (rfG th 0) 9) ≤ 0 then
   (
    (F_X4_takeWord σ th 2).bind fun o2 =>
    L_X4_readVary_23 th NF o2 0
   )
  else
   (
    (F_X4_fail σ th 2).bind fun o3 =>
    (F_X4_takeWord o3 th 2).bind fun o4 =>
    L_X4_readVary_23 th NF o4 0
   )

def J_X4_readJoin_75 (th : Nat) (σ : GS) (v2 : Nat) : Option (GS) :=
  (F_X4_readToken σ th).bind fun o13 =>
  (F_X4_takeNumber o13 th 0 999).bind fun o14 =>
  let σ15 := sI o14.1 v2 7 o14.2
  let σ16 := sI σ15 v2 8 1
  some σ16
def J_X4_readJoin_19 (th : Nat) (σ : GS) : Option (GS) :=
  (F_X1_indexOfName σ (rfG th 0) (gL σ th 10)).bind fun o4 =>
  if o4 < 0 then
   (
    (F_X4_fail σ th 4).bind fun o5 =>
    some o5
   )
  else
   (
    if o4 < (nI (lnG (rfG (rfG th 0) 3))) then
     (
      if inB o4 (lnG (rfG (rfG th 0) 3)) then
        if (gI σ (rfG (rfG (rfG th 0) 3) o4.toNatClampNeg) 8) = 0 then
         (
          J_X4_readJoin_75 th σ (rfG (rfG (rfG th 0) 3) o4.toNatClampNeg)
         )
        else
         (
          (F_X4_fail σ th 2).bind fun o11 =>
          J_X4_readJoin_75 th o11 (rfG (rfG (rfG th 0) 3) o4.toNatClampNeg)
         )
      else none
     )
    else
     (
      (F_X4_fail σ th 4).bind fun o12 =>
      some o12
     )
   )
def F_X4_readJoin (σ : GS) (th : Nat) : Option (GS) :=
  (F_X4_takeWord σ th 3).bind fun o1 =>
  if (gI o1 th 6) = 1 then
   (
    J_X4_readJoin_19 th o1
   )
  else
   (
    (F_X4_fail o1 th 1).bind fun o2 =>
    J_X4_readJoin_19 th o2
   )

def F_X4_readPlayer (σ : GS) (th : Nat) : Option (GS) :=
  if (gI σ (rfG th 0) 10) < 0 then
   (
    (F_X4_fail σ th 5).bind fun o2 =>
    some o2
   )
  else
   (
    if (gI σ (rfG th 0) 10) < (nI (lnG (rfG (rfG th 0) 3))) then
     (
      if inB (gI σ (rfG th 0) 10) (lnG (rfG (rfG th 0) 3)) then
        (F_X4_takeWord σ th 4).bind fun o10 =>
        (F_X4_takeNewName o10 th).bind fun o11 =>
        let σ12 := sL o11.1 (rfG (rfG (rfG th 0) 3) (gI σ (rfG th 0) 10).toNatClampNeg) 2 o11.2
        (F_X4_takeRule σ12 th).bind fun o13 =>
        let σ14 := sI o13.1 (rfG (rfG (rfG th 0) 3) (gI σ (rfG th 0) 10).toNatClampNeg) 3 o13.2
        (F_X4_takeNumber σ14 th 1 30).bind fun o15 =>
        let σ16 := sI o15.1 (rfG (rfG (rfG th 0) 3) (gI σ (rfG th 0) 10).toNatClampNeg) 4 o15.2
        (F_X4_takeNumber σ16 th 1 9).bind fun o17 =>
        let σ18 := sI o17.1 (rfG (rfG (rfG th 0) 3) (gI σ (rfG th 0) 10).toNatClampNeg) 5 o17.2
        (F_X4_readSizes σ18 th (rfG (rfG (rfG th 0) 3) (gI σ (rfG th 0) 10).toNatClampNeg)).bind fun o19 =>
        let σ21 := sI o19 (rfG th 0) 10 ((gI o19 (rfG th 0) 10) + 1)
        some σ21
      else none
     )
    else
     (
      (F_X4_fail σ th 5).bind fun o22 =>
      some o22
     )
   )

def F_X7_share (σ : GS) (th : Nat) (a1 : Int32) : Option (GS × Int32) :=
  (F_X7_seatOf σ th a1).bind fun o1 =>
  (F_X2_afterOneTick σ (rfG th 3)).bind fun o4 =>
  (F_X5_seat o4.1 o4.2 a1).bind fun o6 =>
  some (o4.1, (gI o4.1 o6 16) - (gI o4.1 o1 16))

def F_X7_forecast (σ : GS) (th : Nat) (a1 : Int32) (a2 : Int32) : Option (GS × Int32) :=
  (F_X7_testPlayer σ th a1).bind fun o1 =>
  if a2 < 0 then
   (
    none
   )
  else
   (
    if a2 ≤ 5 then
     (
      (F_X2_atEnd o1 (rfG th 3)).bind fun o3 =>
      (F_X5_seat o3.1 o3.2 a1).bind fun o5 =>
      if a2 = 0 then
       (
        some (o3.1, gI o3.1 o5 14)
       )
      else
      if a2 = 1 then
       (
        some (o3.1, gI o3.1 o5 15)
       )
      else
      if a2 = 2 then
       (
        (F_X3_countSwitches o3.1 o5).bind fun o7 =>
        some (o3.1, o7)
       )
      else
      if a2 = 3 then
       (
        (F_X3_sumOfQualities o3.1 o5).bind fun o8 =>
        some (o3.1, o8)
       )
      else
      if a2 = 4 then
       (
        some (o3.1, gI o3.1 o5 9)
       )
      else
      some (o3.1, gI o3.1 o3.2 3)
     )
    else
     (
      none
     )
   )

def L_X2_greatestSteadyQuality_23 (r17 : GS → Int32 → Option (GS × Int32)) (th : Nat) (a1 : Int32) : Nat → GS → Int32 → Int32 → Option (GS × Int32)
  | 0, _, _, _ => none
  | n + 1, σ, v2, v3 =>
    if (nI (lnG (rfG th 3))) ≤ v3 then
     (
      (F_X2_isSteady σ th (rfG th 0) a1).bind fun o7 =>
      if o7.2 = 0 then
       (
        r17 o7.1 (v2 + (-1))
       )
      else
       (
        some (o7.1, v2)
       )
     )
    else
     (
      if inB v3 (lnG (rfG th 3)) then
        let σ9 := sI σ (rfG th 3) v3.toNatClampNeg v2
        (L_X2_greatestSteadyQuality_23 r17 th a1 n) σ9 v2 (v3 + 1)
      else none
     )
def L_X2_greatestSteadyQuality_17 (th : Nat) (a1 : Int32) : Nat → GS → Int32 → Option (GS × Int32)
  | 0, _, _ => none
  | n + 1, σ, v2 =>
    if v2 < 0 then
     (
      some (σ, (-1))
     )
    else
     (
      L_X2_greatestSteadyQuality_23 (L_X2_greatestSteadyQuality_17 th a1 n) th a1 NF σ v2 0
     )
def F_X2_greatestSteadyQuality (σ : GS) (th : Nat) (a1 : Int32) : Option (GS × Int32) :=
  (F_X5_seat σ (rfG th 0) a1).bind fun o2 =>
  L_X2_greatestSteadyQuality_17 th a1 NF σ ((gI σ (rfG o2 1) 6) - 1)

def L_X2_planAsOracle_145 (r47 : GS → Nat → Int32 → Int32 → Option (GS)) (th : Nat) (a1 : Int32) (a2 : Int32) : Nat → GS → Nat → Int32 → Int32 → Int32 → Option (GS)
  | 0, _, _, _, _, _ => none
  | n + 1, σ, v3, v4, v5, v6 =>
    if v6 ≤ 0 then
     (
      (F_X5_passTick σ (rfG th 1)).bind fun o22 =>
      r47 o22 v3 v4 (v5 + 1)
     )
    else
     (
      (F_X2_isSteady σ th (rfG th 1) a1).bind fun o24 =>
      if o24.2 = 0 then
       (
        if inB v5 (lnG (rfG th 3)) then
          let σ28 := sI o24.1 (rfG th 3) v5.toNatClampNeg (v6 + (-1))
          (L_X2_planAsOracle_145 r47 th a1 a2 n) σ28 v3 v4 v5 (v6 + (-1))
        else none
       )
      else
       (
        (F_X5_passTick o24.1 (rfG th 1)).bind fun o26 =>
        r47 o26 v3 v4 (v5 + 1)
       )
     )
def J_X2_planAsOracle_102 (r47 : GS → Nat → Int32 → Int32 → Option (GS)) (th : Nat) (a1 : Int32) (a2 : Int32) (σ : GS) (v3 : Nat) (v4 : Int32) (v5 : Int32) : Option (GS) :=
  if (2000 : Int32) ≤ (gI σ (rfG th 1) 3) then
   (
    some σ
   )
  else
   (
    if (gI σ v3 14) ≤ v4 then
     (
      if inB v5 (lnG (rfG th 3)) then
        let σ20 := sI σ (rfG th 3) v5.toNatClampNeg ((gI σ (rfG v3 1) 6) - 1)
        L_X2_planAsOracle_145 r47 th a1 a2 NF σ20 v3 v4 v5 ((gI σ (rfG v3 1) 6) - 1)
      else none
     )
    else
     (
      some σ
     )
   )
def L_X2_planAsOracle_72 (r47 : GS → Nat → Int32 → Int32 → Option (GS)) (th : Nat) (a1 : Int32) (a2 : Int32) : Nat → GS → Nat → Int32 → Int32 → Int32 → Option (GS)
  | 0, _, _, _, _, _ => none
  | n + 1, σ, v3, v4, v5, v6 =>
    if (2000 : Int32) ≤ v6 then
     (
      J_X2_planAsOracle_102 r47 th a1 a2 σ v3 v4 v5
     )
    else
     (
      (F_X3_canAsk σ v3 v6).bind fun o14 =>
      if o14 = 0 then
       (
        (F_X5_passTick σ (rfG th 1)).bind fun o16 =>
        (L_X2_planAsOracle_72 r47 th a1 a2 n) o16 v3 v4 v5 (v6 + 1)
       )
      else
       (
        J_X2_planAsOracle_102 r47 th a1 a2 σ v3 v4 v5
       )
     )
def L_X2_planAsOracle_47 (th : Nat) (a1 : Int32) (a2 : Int32) : Nat → GS → Nat → Int32 → Int32 → Option (GS)
  | 0, _, _, _, _ => none
  | n + 1, σ, v3, v4, v5 =>
    if a2 < v5 then
     (
      some σ
     )
    else
     (
      if (nI (lnG (rfG th 3))) ≤ v5 then
       (
        some σ
       )
      else
       (
        L_X2_planAsOracle_72 (L_X2_planAsOracle_47 th a1 a2 n) th a1 a2 NF σ v3 v4 v5 (gI σ (rfG th 1) 3)
       )
     )
def F_X2_planAsOracle (σ : GS) (th : Nat) (a1 : Int32) (a2 : Int32) : Option (GS) :=
  (F_X7_clearRow σ (rfG th 3)).bind fun o2 =>
  (F_X5_copyFrom o2 (rfG th 1) (rfG th 0)).bind fun o5 =>
  (F_X5_seat o5 (rfG th 1) a1).bind fun o7 =>
  let σ10 := sR o5 o7 18 (some (rfG th 3))
  (F_X3_segmentsAsked σ10 o7).bind fun o11 =>
  L_X2_planAsOracle_47 th a1 a2 NF σ10 o7 (gI σ10 o7 14) o11

def F_X4_readStatement (σ : GS) (th : Nat) : Option (GS) :=
  (F_X4_isWord σ th 1).bind fun o1 =>
  if o1 = 0 then
   (
    (F_X4_isWord σ th 2).bind fun o2 =>
    if o2 = 0 then
     (
      (F_X4_isWord σ th 3).bind fun o3 =>
      if o3 = 0 then
       (
        (F_X4_isWord σ th 4).bind fun o4 =>
        if o4 = 0 then
         (
          (F_X4_fail σ th 1).bind fun o5 =>
          (F_X4_takeSemicolon o5 th).bind fun o6 =>
          some o6
         )
        else
         (
          (F_X4_readPlayer σ th).bind fun o7 =>
          (F_X4_takeSemicolon o7 th).bind fun o8 =>
          some o8
         )
       )
      else
       (
        (F_X4_readJoin σ th).bind fun o9 =>
        (F_X4_takeSemicolon o9 th).bind fun o10 =>
        some o10
       )
     )
    else
     (
      (F_X4_readVary σ th).bind fun o11 =>
      (F_X4_takeSemicolon o11 th).bind fun o12 =>
      some o12
     )
   )
  else
   (
    (F_X4_readLink σ th).bind fun o13 =>
    (F_X4_takeSemicolon o13 th).bind fun o14 =>
    some o14
   )

def F_X7_steadyQuality (σ : GS) (th : Nat) (a1 : Int32) : Option (GS × Int32) :=
  (F_X7_seatOf σ th a1).bind fun o1 =>
  (F_X3_segmentsToAsk σ o1).bind fun o3 =>
  if o3 = 0 then
   (
    some (σ, (-1))
   )
  else
   (
    (F_X2_greatestSteadyQuality σ (rfG th 3) a1).bind fun o5 =>
    some (o5.1, o5.2)
   )

def F_X7_oracle (σ : GS) (th : Nat) (a1 : Int32) (a2 : Int32) : Option (GS × Int32) :=
  (F_X7_seatOf σ th a1).bind fun o1 =>
  if a2 < 0 then
   (
    some (σ, (-1))
   )
  else
   (
    (F_X3_segmentsToAsk σ o1).bind fun o3 =>
    if a2 < o3 then
     (
      (F_X3_segmentsAsked σ o1).bind fun o4 =>
      (F_X2_planAsOracle σ (rfG th 3) a1 (o4 + a2)).bind fun o6 =>
      (F_X2_planned o6 (rfG th 3) (o4 + a2)).bind fun o8 =>
      some (o6, o8)
     )
    else
     (
      some (σ, (-1))
     )
   )

def F_X7_regret (σ : GS) (th : Nat) (a1 : Int32) : Option (GS × Int32) :=
  (F_X7_seatOf σ th a1).bind fun o1 =>
  (F_X3_segmentsToAsk σ o1).bind fun o3 =>
  if o3 = 0 then
   (
    some (σ, 0)
   )
  else
   (
    (F_X2_atEnd σ (rfG th 3)).bind fun o5 =>
    (F_X5_seat o5.1 o5.2 a1).bind fun o7 =>
    (F_X3_sumOfQualities o5.1 o7).bind fun o9 =>
    (F_X2_planAsOracle o5.1 (rfG th 3) a1 ((gI o5.1 (rfG o1 1) 4) - 1)).bind fun o12 =>
    (F_X2_atEndAsPlanned o12 (rfG th 3) a1).bind fun o14 =>
    (F_X3_sumOfQualities o14.1 o14.2).bind fun o16 =>
    some (o14.1, o16 - o9)
   )

def J_X4_readText_69 (th : Nat) (a1 : Int32) (σ : GS) : Option (GS × Int32) :=
  if (gI σ th 4) = 0 then
   (
    (F_X1_setAllSegments σ (rfG th 0)).bind fun o12 =>
    let σ13 := sI o12 th 2 0
    some (σ13, gI σ13 th 4)
   )
  else
   (
    let σ10 := sI σ th 2 0
    some (σ10, gI σ10 th 4)
   )
def L_X4_readText_37 (th : Nat) (a1 : Int32) : Nat → GS → Int32 → Option (GS × Int32)
  | 0, _, _ => none
  | n + 1, σ, v2 =>
    if (gI σ th 5) ≤ v2 then
     (
      J_X4_readText_69 th a1 σ
     )
    else
     (
      if (gI σ th 4) = 0 then
       (
        if (gI σ th 6) = 0 then
         (
          J_X4_readText_69 th a1 σ
         )
        else
         (
          (F_X4_readStatement σ th).bind fun o9 =>
          (L_X4_readText_37 th a1 n) o9 (v2 + 1)
         )
       )
      else
       (
        J_X4_readText_69 th a1 σ
       )
     )
def F_X4_readText (σ : GS) (th : Nat) (a1 : Int32) : Option (GS × Int32) :=
  (F_X1_clear σ (rfG th 0)).bind fun o2 =>
  let σ3 := sI o2 th 4 0
  let σ4 := sI σ3 th 3 (-1)
  let σ5 := sI σ4 th 5 a1
  let σ6 := sI σ5 th 8 0
  (F_X4_readToken σ6 th).bind fun o7 =>
  (F_X4_readHead o7 th).bind fun o8 =>
  L_X4_readText_37 th a1 NF o8 0

def L_X7_parse_66 (th : Nat) (a1 : Int32) : Nat → GS → Int32 → Int32 → Option (GS × Int32)
  | 0, _, _, _ => none
  | n + 1, σ, v2, v3 =>
    if (nI (lnG (rfG th 6))) ≤ v3 then
     (
      some (σ, v2)
     )
    else
     (
      if inB v3 (lnG (rfG th 6)) then
        let σ14 := sI σ (rfG th 6) v3.toNatClampNeg 0
        (L_X7_parse_66 th a1 n) σ14 v2 (v3 + 1)
      else none
     )
def F_X7_parse (σ : GS) (th : Nat) (a1 : Int32) : Option (GS × Int32) :=
  if a1 < 0 then
   (
    none
   )
  else
   (
    if a1 ≤ (gI σ (rfG th 0) 2) then
     (
      (F_X4_readText σ (rfG th 0) a1).bind fun o3 =>
      if o3.2 = 0 then
       (
        (F_X1_copyFrom o3.1 (rfG th 1) (rfG (rfG th 0) 0)).bind fun o7 =>
        (F_X5_begin o7 (rfG th 2)).bind fun o9 =>
        (F_X0_clear o9 (rfG th 4)).bind fun o11 =>
        L_X7_parse_66 th a1 NF o11 o3.2 0
       )
      else
       (
        some (o3.1, o3.2)
       )
     )
    else
     (
      none
     )
   )

