def F_X8_thrown (σ : GS) (th : Nat) : Option (Int32) :=
  some (gI σ th 0)

def F_X8_within (σ : GS) (a1 : Int32) (a2 : Int32) (a3 : Int32) : Option (Int32) :=
  if a1 < a2 then
   (
    some 0
   )
  else
   (
    if a3 < a1 then
     (
      some 0
     )
    else
     (
      some 1
     )
   )

def F_X8_throwsIf (σ : GS) (th : Nat) (a1 : Int32) (a2 : Int32) : Option (GS × Int32) :=
  if (gI σ th 0) = 0 then
   (
    if a1 = 0 then
     (
      if (gI σ th 0) ≤ 0 then
       (
        some (σ, 0)
       )
      else
       (
        some (σ, 1)
       )
     )
    else
     (
      let σ1 := sI σ th 0 a2
      if (gI σ1 th 0) ≤ 0 then
       (
        some (σ1, 0)
       )
      else
       (
        some (σ1, 1)
       )
     )
   )
  else
   (
    if (gI σ th 0) ≤ 0 then
     (
      some (σ, 0)
     )
    else
     (
      some (σ, 1)
     )
   )

def L_X8_bytesOf_3 (th : Nat) (a1 : Int32) : Nat → GS → Int32 → Option (GS)
  | 0, _, _ => none
  | n + 1, σ, v2 =>
    if v2 < 0 then
     (
      some σ
     )
    else
     (
      if inB (gI σ th 5) (lnG (rfG th 4)) then
        let σ2 := sI σ (rfG th 4) (gI σ th 5).toNatClampNeg (((a1 >>> (v2 &&& 31)).toInt8.toInt32).toInt8.toInt32)
        let σ3 := sI σ2 th 5 ((gI σ2 th 5) + 1)
        (L_X8_bytesOf_3 th a1 n) σ3 (v2 + (-8))
      else none
     )
def F_X8_bytesOf (σ : GS) (th : Nat) (a1 : Int32) : Option (GS) :=
  L_X8_bytesOf_3 th a1 NF σ 24

def F_X8_byteAt (σ : GS) (th : Nat) (a1 : Int32) : Option (Int32) :=
  if (gI σ th 6) ≤ a1 then
   (
    some (-1)
   )
  else
   (
    if inB a1 (lnG (rfG th 4)) then
      some ((gI σ (rfG th 4) a1.toNatClampNeg) &&& 255)
    else none
   )

def L_X8_takesLetters_5 (th : Nat) : Nat → GS → Option (GS)
  | 0, _ => none
  | n + 1, σ =>
    (F_X8_byteAt σ th (gI σ th 8)).bind fun o2 =>
    (F_X8_within σ o2 97 122).bind fun o3 =>
    if o3 = 0 then
     (
      some σ
     )
    else
     (
      if (8 : Int32) ≤ ((gI σ th 8) - (gI σ th 7)) then
       (
        let σ4 := sL σ th 11 (gL σ th 11)
        let σ5 := sI σ4 th 8 ((gI σ4 th 8) + 1)
        (L_X8_takesLetters_5 th n) σ5
       )
      else
       (
        (F_X8_byteAt σ th (gI σ th 8)).bind fun o6 =>
        let σ7 := sL σ th 11 (((gL σ th 11) <<< ((8 : Int32).toInt64 &&& 63)) ||| o6.toInt64)
        let σ8 := sI σ7 th 8 ((gI σ7 th 8) + 1)
        (L_X8_takesLetters_5 th n) σ8
       )
     )
def F_X8_takesLetters (σ : GS) (th : Nat) : Option (GS) :=
  let σ1 := sL σ th 11 0
  L_X8_takesLetters_5 th NF σ1

def L_X8_advance_126 (th : Nat) : Nat → GS → Option (GS)
  | 0, _ => none
  | n + 1, σ =>
    (F_X8_byteAt σ th (gI σ th 8)).bind fun o33 =>
    (F_X8_within σ o33 48 57).bind fun o34 =>
    if o34 = 0 then
     (
      if ((gI σ th 8) - (gI σ th 7)) ≤ 4 then
       (
        let σ35 := sI σ th 9 2
        some σ35
       )
      else
       (
        let σ36 := sI σ th 9 4
        some σ36
       )
     )
    else
     (
      if (4 : Int32) ≤ ((gI σ th 8) - (gI σ th 7)) then
       (
        let σ37 := sI σ th 10 (gI σ th 10)
        let σ38 := sI σ37 th 8 ((gI σ37 th 8) + 1)
        (L_X8_advance_126 th n) σ38
       )
      else
       (
        (F_X8_byteAt σ th (gI σ th 8)).bind fun o39 =>
        let σ40 := sI σ th 10 (((10 * (gI σ th 10)) + o39) - 48)
        let σ41 := sI σ40 th 8 ((gI σ40 th 8) + 1)
        (L_X8_advance_126 th n) σ41
       )
     )
def L_X8_advance_0 (th : Nat) : Nat → GS → Option (GS)
  | 0, _ => none
  | n + 1, σ =>
    (F_X8_byteAt σ th (gI σ th 8)).bind fun o17 =>
    if o17 = 32 then
     (
      let σ18 := sI σ th 8 ((gI σ th 8) + 1)
      (L_X8_advance_0 th n) σ18
     )
    else
     (
      (F_X8_byteAt σ th (gI σ th 8)).bind fun o19 =>
      if o19 = 10 then
       (
        let σ32 := sI σ th 8 ((gI σ th 8) + 1)
        (L_X8_advance_0 th n) σ32
       )
      else
       (
        let σ20 := sI σ th 7 (gI σ th 8)
        let σ21 := sI σ20 th 10 0
        (F_X8_byteAt σ21 th (gI σ21 th 8)).bind fun o22 =>
        if o22 = (-1) then
         (
          let σ31 := sI σ21 th 9 0
          some σ31
         )
        else
         (
          (F_X8_within σ21 o22 97 122).bind fun o23 =>
          if o23 = 0 then
           (
            (F_X8_within σ21 o22 48 57).bind fun o24 =>
            if o24 = 0 then
             (
              let σ25 := sI σ21 th 8 ((gI σ21 th 8) + 1)
              if o22 = 59 then
               (
                let σ27 := sI σ25 th 9 3
                some σ27
               )
              else
               (
                let σ26 := sI σ25 th 9 4
                some σ26
               )
             )
            else
             (
              L_X8_advance_126 th NF σ21
             )
           )
          else
           (
            (F_X8_takesLetters σ21 th).bind fun o28 =>
            if ((gI o28 th 8) - (gI o28 th 7)) ≤ 8 then
             (
              let σ29 := sI o28 th 9 1
              some σ29
             )
            else
             (
              let σ30 := sI o28 th 9 4
              some σ30
             )
           )
         )
       )
     )
def F_X8_advance (σ : GS) (th : Nat) : Option (GS) :=
  (F_X8_byteAt σ th (gI σ th 8)).bind fun o1 =>
  if o1 = 32 then
   (
    let σ2 := sI σ th 8 ((gI σ th 8) + 1)
    L_X8_advance_0 th NF σ2
   )
  else
   (
    (F_X8_byteAt σ th (gI σ th 8)).bind fun o3 =>
    if o3 = 10 then
     (
      let σ16 := sI σ th 8 ((gI σ th 8) + 1)
      L_X8_advance_0 th NF σ16
     )
    else
     (
      let σ4 := sI σ th 7 (gI σ th 8)
      let σ5 := sI σ4 th 10 0
      (F_X8_byteAt σ5 th (gI σ5 th 8)).bind fun o6 =>
      if o6 = (-1) then
       (
        let σ15 := sI σ5 th 9 0
        some σ15
       )
      else
       (
        (F_X8_within σ5 o6 97 122).bind fun o7 =>
        if o7 = 0 then
         (
          (F_X8_within σ5 o6 48 57).bind fun o8 =>
          if o8 = 0 then
           (
            let σ9 := sI σ5 th 8 ((gI σ5 th 8) + 1)
            if o6 = 59 then
             (
              let σ11 := sI σ9 th 9 3
              some σ11
             )
            else
             (
              let σ10 := sI σ9 th 9 4
              some σ10
             )
           )
          else
           (
            L_X8_advance_126 th NF σ5
           )
         )
        else
         (
          (F_X8_takesLetters σ5 th).bind fun o12 =>
          if ((gI o12 th 8) - (gI o12 th 7)) ≤ 8 then
           (
            let σ13 := sI o12 th 9 1
            some σ13
           )
          else
           (
            let σ14 := sI o12 th 9 4
            some σ14
           )
         )
       )
     )
   )

def L_X8_isWord_32 (th : Nat) (a1 : Nat) : Nat → GS → Int32 → Int32 → Option (Int32)
  | 0, _, _, _ => none
  | n + 1, σ, v2, v3 =>
    if (nI (strB a1).length) ≤ v3 then
     (
      if v2 = 0 ∨ v2 = 1 then
        some v2
      else none
     )
    else
     (
      if v2 = 0 then
       (
        if v2 = 0 ∨ v2 = 1 then
          some v2
        else none
       )
      else
       (
        if inB ((gI σ th 7) + v3) (lnG (rfG th 4)) then
          if inB v3 (strB a1).length then
            if (gI σ (rfG th 4) ((gI σ th 7) + v3).toNatClampNeg) = ((strB a1).getD v3.toNatClampNeg 0) then
             (
              (L_X8_isWord_32 th a1 n) σ 1 (v3 + 1)
             )
            else
             (
              (L_X8_isWord_32 th a1 n) σ 0 (v3 + 1)
             )
          else none
        else none
       )
     )
def F_X8_isWord (σ : GS) (th : Nat) (a1 : Nat) : Option (Int32) :=
  if (gI σ th 9) = 1 then
   (
    if ((gI σ th 8) - (gI σ th 7)) = (nI (strB a1).length) then
     (
      L_X8_isWord_32 th a1 NF σ 1 0
     )
    else
     (
      L_X8_isWord_32 th a1 NF σ 0 0
     )
   )
  else
   (
    L_X8_isWord_32 th a1 NF σ 0 0
   )

def F_X8_fails (σ : GS) (th : Nat) (a1 : Int32) : Option (GS × Int32) :=
  if (gI σ th 12) = 0 then
   (
    let σ1 := sI σ th 12 a1
    let σ2 := sI σ1 th 13 (gI σ1 th 7)
    some (σ2, 0)
   )
  else
   (
    some (σ, 0)
   )

def F_X8_starts (σ : GS) (th : Nat) (a1 : Int32) (a2 : Int32) : Option (GS × Int32) :=
  if a2 = 0 then
   (
    (F_X8_fails σ th a1).bind fun o2 =>
    if o2.2 = 0 ∨ o2.2 = 1 then
      some (o2.1, o2.2)
    else none
   )
  else
   (
    (F_X8_advance σ th).bind fun o1 =>
    some (o1, 1)
   )

def F_X8_isNumber (σ : GS) (th : Nat) (a1 : Int32) (a2 : Int32) : Option (GS × Int32) :=
  if (gI σ th 9) = 2 then
   (
    (F_X8_within σ (gI σ th 10) a1 a2).bind fun o1 =>
    if o1 = 0 then
     (
      (F_X8_fails σ th 3).bind fun o2 =>
      if o2.2 = 0 then
       (
        some (o2.1, 0)
       )
      else
       (
        some (o2.1, 1)
       )
     )
    else
     (
      some (σ, 1)
     )
   )
  else
   (
    (F_X8_fails σ th 1).bind fun o3 =>
    if o3.2 = 0 ∨ o3.2 = 1 then
      some (o3.1, o3.2)
    else none
   )

def F_X8_takes (σ : GS) (th : Nat) (a1 : Int32) (a2 : Int32) : Option (GS × Int32) :=
  (F_X8_isNumber σ th a1 a2).bind fun o1 =>
  if o1.2 = 0 then
   (
    some (o1.1, 0)
   )
  else
   (
    let σ2 := sI o1.1 th 14 (gI o1.1 th 10)
    (F_X8_advance σ2 th).bind fun o3 =>
    some (o3, 1)
   )

def F_X8_lays (σ : GS) (th : Nat) (a1 : Int32) (a2 : Int32) (a3 : Int32) : Option (GS × Int32) :=
  (F_X8_takes σ th a2 a3).bind fun o1 =>
  if o1.2 = 0 then
   (
    some (o1.1, 0)
   )
  else
   (
    if inB a1 (lnG (rfG th 17)) then
      let σ3 := sI o1.1 (rfG th 17) a1.toNatClampNeg (gI o1.1 th 14)
      some (σ3, 1)
    else none
   )

def F_X8_closes (σ : GS) (th : Nat) : Option (GS × Int32) :=
  if (gI σ th 9) = 3 then
   (
    (F_X8_starts σ th 1 1).bind fun o2 =>
    if o2.2 = 0 ∨ o2.2 = 1 then
      some (o2.1, o2.2)
    else none
   )
  else
   (
    (F_X8_starts σ th 1 0).bind fun o1 =>
    if o1.2 = 0 ∨ o1.2 = 1 then
      some (o1.1, o1.2)
    else none
   )

def L_X8_named_3 (a1 : Nat) (a2 : Int32) (a3 : Int64) : Nat → GS → Int32 → Option (Int32)
  | 0, _, _ => none
  | n + 1, σ, v4 =>
    if a2 ≤ v4 then
     (
      some (-1)
     )
    else
     (
      if inB v4 (lnG a1) then
        if (lg_cmp (gL σ a1 v4.toNatClampNeg) a3) = 0 then
         (
          some v4
         )
        else
         (
          (L_X8_named_3 a1 a2 a3 n) σ (v4 + 1)
         )
      else none
     )
def F_X8_named (σ : GS) (a1 : Nat) (a2 : Int32) (a3 : Int64) : Option (Int32) :=
  L_X8_named_3 a1 a2 a3 NF σ 0

def J_X8_linkLine_20 (th : Nat) (σ : GS) (v1 : Int32) (u0 : Int32) : Option (GS × Int32) :=
  (F_X8_starts σ th 5 u0).bind fun o2 =>
  if o2.2 = 0 then
   (
    some (o2.1, 0)
   )
  else
   (
    (F_X8_lays o2.1 th (7 + v1) 1 200).bind fun o3 =>
    if o3.2 = 0 then
     (
      some (o3.1, 0)
     )
    else
     (
      (F_X8_takes o3.1 th 0 9999).bind fun o4 =>
      if o4.2 = 0 then
       (
        some (o4.1, 0)
       )
      else
       (
        if inB v1 (lnG (rfG th 18)) then
          let σ6 := sI o4.1 (rfG th 18) v1.toNatClampNeg (gI o4.1 th 14)
          if inB 5 (lnG (rfG th 17)) then
            if inB 5 (lnG (rfG th 17)) then
              let σ8 := sI σ6 (rfG th 17) (5 : Int32).toNatClampNeg ((gI σ6 (rfG th 17) (5 : Int32).toNatClampNeg) + 1)
              some (σ8, 1)
            else none
          else none
        else none
       )
     )
   )
def F_X8_linkLine (σ : GS) (th : Nat) : Option (GS × Int32) :=
  if inB 5 (lnG (rfG th 17)) then
    if (8 : Int32) ≤ (gI σ (rfG th 17) (5 : Int32).toNatClampNeg) then
     (
      J_X8_linkLine_20 th σ (gI σ (rfG th 17) (5 : Int32).toNatClampNeg) 0
     )
    else
     (
      J_X8_linkLine_20 th σ (gI σ (rfG th 17) (5 : Int32).toNatClampNeg) 1
     )
  else none

def J_X8_varyLine_109 (r29 : GS → Int32 → Option (GS × Int32)) (th : Nat) (σ : GS) (u0 : Int32) : Option (GS × Int32) :=
  if inB 6 (lnG (rfG th 17)) then
    if u0 = 0 then
     (
      if inB 6 (lnG (rfG th 17)) then
        let σ10 := sI σ (rfG th 17) (6 : Int32).toNatClampNeg ((gI σ (rfG th 17) (6 : Int32).toNatClampNeg) + 0)
        r29 σ10 u0
      else none
     )
    else
     (
      if inB 6 (lnG (rfG th 17)) then
        let σ11 := sI σ (rfG th 17) (6 : Int32).toNatClampNeg ((gI σ (rfG th 17) (6 : Int32).toNatClampNeg) + 1)
        r29 σ11 u0
      else none
     )
  else none
def J_X8_varyLine_108 (r29 : GS → Int32 → Option (GS × Int32)) (th : Nat) (σ : GS) : Option (GS × Int32) :=
  J_X8_varyLine_109 r29 th σ 0
def J_X8_varyLine_82 (r29 : GS → Int32 → Option (GS × Int32)) (th : Nat) (σ : GS) : Option (GS × Int32) :=
  if inB 6 (lnG (rfG th 17)) then
    (F_X8_lays σ th (15 + (gI σ (rfG th 17) (6 : Int32).toNatClampNeg)) 50 200).bind fun o8 =>
    if o8.2 = 0 then
     (
      J_X8_varyLine_108 r29 th o8.1
     )
    else
     (
      J_X8_varyLine_109 r29 th o8.1 1
     )
  else none
def J_X8_varyLine_51 (r29 : GS → Int32 → Option (GS × Int32)) (th : Nat) (σ : GS) : Option (GS × Int32) :=
  (F_X8_isNumber σ th 50 200).bind fun o4 =>
  if o4.2 = 0 then
   (
    J_X8_varyLine_108 r29 th o4.1
   )
  else
   (
    if inB 6 (lnG (rfG th 17)) then
      if (gI o4.1 (rfG th 17) (6 : Int32).toNatClampNeg) < 4 then
       (
        J_X8_varyLine_82 r29 th o4.1
       )
      else
       (
        (F_X8_fails o4.1 th 5).bind fun o6 =>
        if o6.2 = 0 then
         (
          J_X8_varyLine_108 r29 th o6.1
         )
        else
         (
          J_X8_varyLine_82 r29 th o6.1
         )
       )
    else none
   )
def L_X8_varyLine_29 (th : Nat) : Nat → GS → Int32 → Option (GS × Int32)
  | 0, _, _ => none
  | n + 1, σ, v1 =>
    if v1 = 0 then
     (
      if v1 = 0 ∨ v1 = 1 then
        some (σ, v1)
      else none
     )
    else
     (
      if (gI σ th 9) = 2 then
       (
        J_X8_varyLine_51 (L_X8_varyLine_29 th n) th σ
       )
      else
       (
        if inB 6 (lnG (rfG th 17)) then
          if (gI σ (rfG th 17) (6 : Int32).toNatClampNeg) = 0 then
           (
            J_X8_varyLine_51 (L_X8_varyLine_29 th n) th σ
           )
          else
           (
            if v1 = 0 ∨ v1 = 1 then
              some (σ, v1)
            else none
           )
        else none
       )
     )
def J_X8_varyLine_14 (th : Nat) (σ : GS) (u0 : Int32) : Option (GS × Int32) :=
  (F_X8_starts σ th 2 u0).bind fun o1 =>
  if o1.2 = 0 then
   (
    some (o1.1, 0)
   )
  else
   (
    let σ2 := sI o1.1 th 16 1
    L_X8_varyLine_29 th NF σ2 1
   )
def F_X8_varyLine (σ : GS) (th : Nat) : Option (GS × Int32) :=
  if (gI σ th 16) = 0 then
   (
    J_X8_varyLine_14 th σ 1
   )
  else
   (
    J_X8_varyLine_14 th σ 0
   )

def J_X8_joinLine_71 (th : Nat) (σ : GS) (v1 : Int32) (u0 : Int32) : Option (GS × Int32) :=
  (F_X8_starts σ th 4 u0).bind fun o7 =>
  if o7.2 = 0 then
   (
    some (o7.1, 0)
   )
  else
   (
    let σ8 := sI o7.1 th 15 ((gI o7.1 th 15) ||| (1 <<< (v1 &&& 31)))
    (F_X8_lays σ8 th ((19 + (7 * v1)) + 2) 0 999).bind fun o9 =>
    if o9.2 = 0 ∨ o9.2 = 1 then
      some (o9.1, o9.2)
    else none
   )
def J_X8_joinLine_59 (th : Nat) (σ : GS) (v1 : Int32) : Option (GS × Int32) :=
  if v1 = (-1) then
   (
    J_X8_joinLine_71 th σ v1 0
   )
  else
   (
    J_X8_joinLine_71 th σ v1 1
   )
def F_X8_joinLine (σ : GS) (th : Nat) : Option (GS × Int32) :=
  (F_X8_advance σ th).bind fun o1 =>
  if (gI o1 th 9) = 1 then
   (
    if inB 4 (lnG (rfG th 17)) then
      (F_X8_named o1 (rfG th 21) (gI o1 (rfG th 17) (4 : Int32).toNatClampNeg) (gL o1 th 11)).bind fun o4 =>
      if o4 = (-1) then
       (
        J_X8_joinLine_59 th o1 o4
       )
      else
       (
        if (((gI o1 th 15) >>> (o4 &&& 31)) &&& 1) = 1 then
         (
          (F_X8_fails o1 th 2).bind fun o5 =>
          if o5.2 = 0 ∨ o5.2 = 1 then
            some (o5.1, o5.2)
          else none
         )
        else
         (
          J_X8_joinLine_59 th o1 o4
         )
       )
    else none
   )
  else
   (
    (F_X8_fails o1 th 1).bind fun o6 =>
    if o6.2 = 0 ∨ o6.2 = 1 then
      some (o6.1, o6.2)
    else none
   )

def J_X8_sizesRead_65 (r7 : GS → Int32 → Int32 → Int32 → Option (GS × Int32)) (th : Nat) (a1 : Int32) (σ : GS) (v2 : Int32) : Option (GS × Int32) :=
  (F_X8_lays σ th ((a1 + 3) + v2) 1 9999).bind fun o6 =>
  if o6.2 = 0 then
   (
    r7 o6.1 (v2 + 1) (gI o6.1 th 14) 0
   )
  else
   (
    r7 o6.1 (v2 + 1) (gI o6.1 th 14) 1
   )
def J_X8_sizesRead_48 (r7 : GS → Int32 → Int32 → Int32 → Option (GS × Int32)) (th : Nat) (a1 : Int32) (σ : GS) (v2 : Int32) (v3 : Int32) : Option (GS × Int32) :=
  if v3 < (gI σ th 10) then
   (
    J_X8_sizesRead_65 r7 th a1 σ v2
   )
  else
   (
    (F_X8_fails σ th 6).bind fun o5 =>
    if o5.2 = 0 then
     (
      r7 o5.1 (v2 + 1) (gI o5.1 th 14) 0
     )
    else
     (
      J_X8_sizesRead_65 r7 th a1 o5.1 v2
     )
   )
def J_X8_sizesRead_24 (r7 : GS → Int32 → Int32 → Int32 → Option (GS × Int32)) (th : Nat) (a1 : Int32) (σ : GS) (v2 : Int32) (v3 : Int32) : Option (GS × Int32) :=
  (F_X8_isNumber σ th 1 9999).bind fun o3 =>
  if o3.2 = 0 then
   (
    r7 o3.1 (v2 + 1) (gI o3.1 th 14) 0
   )
  else
   (
    if v2 < 4 then
     (
      J_X8_sizesRead_48 r7 th a1 o3.1 v2 v3
     )
    else
     (
      (F_X8_fails o3.1 th 5).bind fun o4 =>
      if o4.2 = 0 then
       (
        r7 o4.1 (v2 + 1) (gI o4.1 th 14) 0
       )
      else
       (
        J_X8_sizesRead_48 r7 th a1 o4.1 v2 v3
       )
     )
   )
def J_X8_sizesRead_99 (th : Nat) (a1 : Int32) (σ : GS) (v2 : Int32) (v4 : Int32) : Option (GS × Int32) :=
  if inB (a1 + 1) (lnG (rfG th 17)) then
    let σ2 := sI σ (rfG th 17) (a1 + 1).toNatClampNeg v2
    if v4 = 0 ∨ v4 = 1 then
      some (σ2, v4)
    else none
  else none
def L_X8_sizesRead_7 (th : Nat) (a1 : Int32) : Nat → GS → Int32 → Int32 → Int32 → Option (GS × Int32)
  | 0, _, _, _, _ => none
  | n + 1, σ, v2, v3, v4 =>
    if v4 = 0 then
     (
      J_X8_sizesRead_99 th a1 σ v2 v4
     )
    else
     (
      if (gI σ th 9) = 2 then
       (
        J_X8_sizesRead_24 (L_X8_sizesRead_7 th a1 n) th a1 σ v2 v3
       )
      else
       (
        if v2 = 0 then
         (
          J_X8_sizesRead_24 (L_X8_sizesRead_7 th a1 n) th a1 σ v2 v3
         )
        else
         (
          J_X8_sizesRead_99 th a1 σ v2 v4
         )
       )
     )
def F_X8_sizesRead (σ : GS) (th : Nat) (a1 : Int32) : Option (GS × Int32) :=
  L_X8_sizesRead_7 th a1 NF σ 0 0 1

def J_X8_playerLine_151 (th : Nat) (σ : GS) (v1 : Int32) (v2 : Int64) (v4 : Int32) (v5 : Int32) (u0 : Int32) : Option (GS × Int32) :=
  (F_X8_starts σ th 1 u0).bind fun o11 =>
  if o11.2 = 0 then
   (
    some (o11.1, 0)
   )
  else
   (
    (F_X8_lays o11.1 th (v5 + 0) 1 30).bind fun o12 =>
    if o12.2 = 0 then
     (
      some (o12.1, 0)
     )
    else
     (
      (F_X8_takes o12.1 th 1 9).bind fun o13 =>
      if o13.2 = 0 then
       (
        some (o13.1, 0)
       )
      else
       (
        if inB v1 (lnG (rfG th 20)) then
          let σ15 := sI o13.1 (rfG th 20) v1.toNatClampNeg (gI o13.1 th 14)
          (F_X8_sizesRead σ15 th v5).bind fun o16 =>
          if o16.2 = 0 then
           (
            some (o16.1, 0)
           )
          else
           (
            if inB v1 (lnG (rfG th 21)) then
              let σ18 := sL o16.1 (rfG th 21) v1.toNatClampNeg v2
              if inB v1 (lnG (rfG th 19)) then
                let σ20 := sI σ18 (rfG th 19) v1.toNatClampNeg v4
                if inB 4 (lnG (rfG th 17)) then
                  if inB 4 (lnG (rfG th 17)) then
                    let σ22 := sI σ20 (rfG th 17) (4 : Int32).toNatClampNeg ((gI σ20 (rfG th 17) (4 : Int32).toNatClampNeg) + 1)
                    some (σ22, 1)
                  else none
                else none
              else none
            else none
           )
        else none
       )
     )
   )
def J_X8_playerLine_127 (th : Nat) (σ : GS) (v1 : Int32) (v2 : Int64) (u0 : Int32) : Option (GS × Int32) :=
  if u0 = (-1) then
   (
    J_X8_playerLine_151 th σ v1 v2 u0 (19 + (7 * v1)) 0
   )
  else
   (
    J_X8_playerLine_151 th σ v1 v2 u0 (19 + (7 * v1)) 1
   )
def J_X8_playerLine_66 (th : Nat) (σ : GS) (v1 : Int32) (v2 : Int64) (u0 : Int32) : Option (GS × Int32) :=
  (F_X8_starts σ th 2 u0).bind fun o6 =>
  if o6.2 = 0 then
   (
    some (o6.1, 0)
   )
  else
   (
    (F_X8_isWord o6.1 th 14).bind fun o7 =>
    if o7 = 0 then
     (
      (F_X8_isWord o6.1 th 15).bind fun o8 =>
      if o8 = 0 then
       (
        (F_X8_isWord o6.1 th 16).bind fun o9 =>
        if o9 = 0 then
         (
          (F_X8_isWord o6.1 th 17).bind fun o10 =>
          if o10 = 0 then
           (
            J_X8_playerLine_127 th o6.1 v1 v2 (-1)
           )
          else
           (
            J_X8_playerLine_127 th o6.1 v1 v2 3
           )
         )
        else
         (
          J_X8_playerLine_127 th o6.1 v1 v2 2
         )
       )
      else
       (
        J_X8_playerLine_127 th o6.1 v1 v2 1
       )
     )
    else
     (
      J_X8_playerLine_127 th o6.1 v1 v2 0
     )
   )
def J_X8_playerLine_19 (th : Nat) (σ : GS) (v1 : Int32) (u0 : Int32) : Option (GS × Int32) :=
  (F_X8_starts σ th 5 u0).bind fun o2 =>
  if o2.2 = 0 then
   (
    some (o2.1, 0)
   )
  else
   (
    if (gI o2.1 th 9) = 1 then
     (
      (F_X8_named o2.1 (rfG th 21) v1 (gL o2.1 th 11)).bind fun o4 =>
      if o4 = (-1) then
       (
        J_X8_playerLine_66 th o2.1 v1 (gL o2.1 th 11) 1
       )
      else
       (
        J_X8_playerLine_66 th o2.1 v1 (gL o2.1 th 11) 0
       )
     )
    else
     (
      (F_X8_fails o2.1 th 1).bind fun o5 =>
      if o5.2 = 0 ∨ o5.2 = 1 then
        some (o5.1, o5.2)
      else none
     )
   )
def F_X8_playerLine (σ : GS) (th : Nat) : Option (GS × Int32) :=
  if inB 4 (lnG (rfG th 17)) then
    if (4 : Int32) ≤ (gI σ (rfG th 17) (4 : Int32).toNatClampNeg) then
     (
      J_X8_playerLine_19 th σ (gI σ (rfG th 17) (4 : Int32).toNatClampNeg) 0
     )
    else
     (
      J_X8_playerLine_19 th σ (gI σ (rfG th 17) (4 : Int32).toNatClampNeg) 1
     )
  else none

def F_X8_statement (σ : GS) (th : Nat) : Option (GS × Int32) :=
  (F_X8_isWord σ th 10).bind fun o1 =>
  if o1 = 0 then
   (
    (F_X8_isWord σ th 11).bind fun o2 =>
    if o2 = 0 then
     (
      (F_X8_isWord σ th 12).bind fun o3 =>
      if o3 = 0 then
       (
        (F_X8_isWord σ th 13).bind fun o4 =>
        if o4 = 0 then
         (
          (F_X8_fails σ th 1).bind fun o5 =>
          if o5.2 = 0 ∨ o5.2 = 1 then
            some (o5.1, o5.2)
          else none
         )
        else
         (
          (F_X8_playerLine σ th).bind fun o6 =>
          if o6.2 = 0 ∨ o6.2 = 1 then
            some (o6.1, o6.2)
          else none
         )
       )
      else
       (
        (F_X8_joinLine σ th).bind fun o7 =>
        if o7.2 = 0 ∨ o7.2 = 1 then
          some (o7.1, o7.2)
        else none
       )
     )
    else
     (
      (F_X8_varyLine σ th).bind fun o8 =>
      if o8.2 = 0 ∨ o8.2 = 1 then
        some (o8.1, o8.2)
      else none
     )
   )
  else
   (
    (F_X8_linkLine σ th).bind fun o9 =>
    if o9.2 = 0 ∨ o9.2 = 1 then
      some (o9.1, o9.2)
    else none
   )

def L_X8_clearsRead_2 (th : Nat) : Nat → GS → Int32 → Option (GS)
  | 0, _, _ => none
  | n + 1, σ, v1 =>
    if (47 : Int32) ≤ v1 then
     (
      let σ1 := sI σ th 15 0
      let σ2 := sI σ1 th 16 0
      some σ2
     )
    else
     (
      if inB v1 (lnG (rfG th 17)) then
        let σ4 := sI σ (rfG th 17) v1.toNatClampNeg 0
        (L_X8_clearsRead_2 th n) σ4 (v1 + 1)
      else none
     )
def F_X8_clearsRead (σ : GS) (th : Nat) : Option (GS) :=
  L_X8_clearsRead_2 th NF σ 0

def F_X8_errorPosition (σ : GS) (th : Nat) : Option (GS × Int32) :=
  let σ1 := sI σ th 0 0
  some (σ1, gI σ1 th 13)

def L_X8_find_37 (th : Nat) : Nat → GS → Int32 → Option (GS × Int32)
  | 0, _, _ => none
  | n + 1, σ, v1 =>
    (F_X8_byteAt σ th (gI σ th 8)).bind fun o7 =>
    if o7 = 32 then
     (
      let σ11 := sI σ th 8 ((gI σ th 8) + 1)
      (L_X8_find_37 th n) σ11 v1
     )
    else
     (
      if v1 = 0 then
       (
        some (σ, (-1))
       )
      else
       (
        if (8 : Int32) < v1 then
         (
          some (σ, (-1))
         )
        else
         (
          if (gI σ th 6) ≤ (gI σ th 8) then
           (
            if inB 4 (lnG (rfG th 1)) then
              (F_X8_named σ (rfG th 2) (gI σ (rfG th 1) (4 : Int32).toNatClampNeg) (gL σ th 11)).bind fun o10 =>
              some (σ, o10)
            else none
           )
          else
           (
            some (σ, (-1))
           )
         )
       )
     )
def F_X8_find (σ : GS) (th : Nat) : Option (GS × Int32) :=
  let σ1 := sI σ th 0 0
  let σ2 := sI σ1 th 6 (gI σ1 th 5)
  let σ3 := sI σ2 th 5 0
  let σ4 := sI σ3 th 7 0
  let σ5 := sI σ4 th 8 0
  (F_X8_takesLetters σ5 th).bind fun o6 =>
  L_X8_find_37 th NF o6 (gI o6 th 8)

def F_X8_toldOf (σ : GS) (th : Nat) (a1 : Int32) (a2 : Int32) : Option (Int32) :=
  if inB ((19 + (7 * a1)) + a2) (lnG (rfG th 1)) then
    some (gI σ (rfG th 1) ((19 + (7 * a1)) + a2).toNatClampNeg)
  else none

def F_X8_of (σ : GS) (th : Nat) (a1 : Int32) (a2 : Int32) : Option (Int32) :=
  if inB ((13 + (106 * a1)) + a2) (lnG (rfG th 3)) then
    some (gI σ (rfG th 3) ((13 + (106 * a1)) + a2).toNatClampNeg)
  else none

def F_X8_sets (σ : GS) (th : Nat) (a1 : Int32) (a2 : Int32) (a3 : Int32) : Option (GS) :=
  if inB ((13 + (106 * a1)) + a2) (lnG (rfG th 3)) then
    let σ2 := sI σ (rfG th 3) ((13 + (106 * a1)) + a2).toNatClampNeg a3
    some σ2
  else none

def F_X8_adds (σ : GS) (th : Nat) (a1 : Int32) (a2 : Int32) (a3 : Int32) : Option (GS) :=
  if inB ((13 + (106 * a1)) + a2) (lnG (rfG th 3)) then
    if inB ((13 + (106 * a1)) + a2) (lnG (rfG th 3)) then
      let σ2 := sI σ (rfG th 3) ((13 + (106 * a1)) + a2).toNatClampNeg ((gI σ (rfG th 3) ((13 + (106 * a1)) + a2).toNatClampNeg) + a3)
      some σ2
    else none
  else none

def L_X8_rateAt_59 (th : Nat) (a1 : Int32) : Nat → GS → Int32 → Int32 → Option (Int32)
  | 0, _, _, _ => none
  | n + 1, σ, v3, v4 =>
    if inB (7 + v4) (lnG (rfG th 1)) then
      if v3 < (gI σ (rfG th 1) (7 + v4).toNatClampNeg) then
       (
        if inB (1 + v4) (lnG (rfG th 3)) then
          some (gI σ (rfG th 3) (1 + v4).toNatClampNeg)
        else none
       )
      else
       (
        if inB (7 + v4) (lnG (rfG th 1)) then
          (L_X8_rateAt_59 th a1 n) σ (v3 - (gI σ (rfG th 1) (7 + v4).toNatClampNeg)) (v4 + 1)
        else none
       )
    else none
def L_X8_rateAt_17 (th : Nat) (a1 : Int32) : Nat → GS → Int32 → Int32 → Option (Int32)
  | 0, _, _, _ => none
  | n + 1, σ, v2, v3 =>
    if inB 5 (lnG (rfG th 1)) then
      if (gI σ (rfG th 1) (5 : Int32).toNatClampNeg) ≤ v3 then
       (
        if v2 = 0 then
         (
          some 100
         )
        else
         (
          if ¬ v2 = 0 then
            L_X8_rateAt_59 th a1 NF σ (a1 - a1 / v2 * v2) 0
          else none
         )
       )
      else
       (
        if inB (7 + v3) (lnG (rfG th 1)) then
          (L_X8_rateAt_17 th a1 n) σ (v2 + (gI σ (rfG th 1) (7 + v3).toNatClampNeg)) (v3 + 1)
        else none
       )
    else none
def F_X8_rateAt (σ : GS) (th : Nat) (a1 : Int32) : Option (Int32) :=
  if (gI σ th 22) = (-1) then
   (
    L_X8_rateAt_17 th a1 NF σ 0 0
   )
  else
   (
    some (gI σ th 22)
   )

def J_X8_sizeAt_31 (th : Nat) (a1 : Int32) (a2 : Int32) (a3 : Int32) (σ : GS) (u0 : Int32) : Option (Int32) :=
  (F_X8_toldOf σ th a1 (3 + a3)).bind fun o3 =>
  if (1 : Int32) ≤ ((o3 * u0) / 100) then
   (
    some ((o3 * u0) / 100)
   )
  else
   (
    some 1
   )
def F_X8_sizeAt (σ : GS) (th : Nat) (a1 : Int32) (a2 : Int32) (a3 : Int32) : Option (Int32) :=
  if inB 6 (lnG (rfG th 1)) then
    if (gI σ (rfG th 1) (6 : Int32).toNatClampNeg) = 0 then
     (
      J_X8_sizeAt_31 th a1 a2 a3 σ 100
     )
    else
     (
      if ¬ (gI σ (rfG th 1) (6 : Int32).toNatClampNeg) = 0 then
        if inB (15 + (a2 - a2 / (gI σ (rfG th 1) (6 : Int32).toNatClampNeg) * (gI σ (rfG th 1) (6 : Int32).toNatClampNeg))) (lnG (rfG th 1)) then
          J_X8_sizeAt_31 th a1 a2 a3 σ (gI σ (rfG th 1) (15 + (a2 - a2 / (gI σ (rfG th 1) (6 : Int32).toNatClampNeg) * (gI σ (rfG th 1) (6 : Int32).toNatClampNeg))).toNatClampNeg)
        else none
      else none
     )
  else none

def F_X8_hasJoined (σ : GS) (th : Nat) (a1 : Int32) : Option (Int32) :=
  if inB 0 (lnG (rfG th 3)) then
    (F_X8_toldOf σ th a1 2).bind fun o2 =>
    if (gI σ (rfG th 3) (0 : Int32).toNatClampNeg) < o2 then
     (
      some 0
     )
    else
     (
      some 1
     )
  else none

def F_X8_hasAll (σ : GS) (th : Nat) (a1 : Int32) : Option (Int32) :=
  (F_X8_of σ th a1 2).bind fun o1 =>
  (F_X8_toldOf σ th a1 0).bind fun o2 =>
  if o1 = o2 then
   (
    some 1
   )
  else
   (
    some 0
   )

def F_X8_askedMany (σ : GS) (th : Nat) (a1 : Int32) : Option (Int32) :=
  (F_X8_of σ th a1 2).bind fun o1 =>
  (F_X8_of σ th a1 3).bind fun o2 =>
  if o2 = (-1) then
   (
    some (o1 + 0)
   )
  else
   (
    some (o1 + 1)
   )

def F_X8_byBuffer (σ : GS) (th : Nat) (a1 : Int32) : Option (Int32) :=
  (F_X8_of σ th a1 1).bind fun o1 =>
  (F_X8_toldOf σ th a1 1).bind fun o2 =>
  if inB 2 (lnG (rfG th 1)) then
    if ¬ (gI σ (rfG th 1) (2 : Int32).toNatClampNeg) = 0 then
      (F_X8_toldOf σ th a1 1).bind fun o4 =>
      if (o4 - 1) ≤ ((o1 * o2) / (gI σ (rfG th 1) (2 : Int32).toNatClampNeg)) then
       (
        some (o4 - 1)
       )
      else
       (
        some ((o1 * o2) / (gI σ (rfG th 1) (2 : Int32).toNatClampNeg))
       )
    else none
  else none

def L_X8_byRate_4 (th : Nat) (a1 : Int32) : Nat → GS → Int32 → Int32 → Option (Int32)
  | 0, _, _, _ => none
  | n + 1, σ, v2, v3 =>
    (F_X8_toldOf σ th a1 1).bind fun o1 =>
    if o1 ≤ v3 then
     (
      some v2
     )
    else
     (
      (F_X8_askedMany σ th a1).bind fun o2 =>
      (F_X8_sizeAt σ th a1 o2 v3).bind fun o3 =>
      (F_X8_of σ th a1 11).bind fun o4 =>
      if inB 0 (lnG (rfG th 1)) then
        if inB 3 (lnG (rfG th 1)) then
          if ((o4 * (gI σ (rfG th 1) (0 : Int32).toNatClampNeg)) * (gI σ (rfG th 1) (3 : Int32).toNatClampNeg)) < (o3 * 100) then
           (
            (L_X8_byRate_4 th a1 n) σ v2 (v3 + 1)
           )
          else
           (
            (L_X8_byRate_4 th a1 n) σ v3 (v3 + 1)
           )
        else none
      else none
     )
def F_X8_byRate (σ : GS) (th : Nat) (a1 : Int32) : Option (Int32) :=
  L_X8_byRate_4 th a1 NF σ 0 1

def F_X8_byRule (σ : GS) (th : Nat) (a1 : Int32) : Option (Int32) :=
  (F_X8_of σ th a1 12).bind fun o1 =>
  if o1 = 0 then
   (
    some 0
   )
  else
  if o1 = 1 then
   (
    (F_X8_byBuffer σ th a1).bind fun o6 =>
    some o6
   )
  else
  if o1 = 2 then
   (
    (F_X8_byRate σ th a1).bind fun o7 =>
    some o7
   )
  else
  (F_X8_byBuffer σ th a1).bind fun o2 =>
  (F_X8_byRate σ th a1).bind fun o3 =>
  if o3 ≤ o2 then
   (
    (F_X8_byRate σ th a1).bind fun o4 =>
    some o4
   )
  else
   (
    (F_X8_byBuffer σ th a1).bind fun o5 =>
    some o5
   )

def J_X8_asks_105 (th : Nat) (a1 : Int32) (σ : GS) (u0 : Int32) : Option (GS) :=
  (F_X8_of σ th a1 2).bind fun o12 =>
  (F_X8_sizeAt σ th a1 o12 u0).bind fun o13 =>
  (F_X8_sets σ th a1 4 o13).bind fun o14 =>
  (F_X8_sets o14 th a1 3 u0).bind fun o15 =>
  if inB 0 (lnG (rfG th 3)) then
    (F_X8_sets o15 th a1 14 (gI o15 (rfG th 3) (0 : Int32).toNatClampNeg)).bind fun o17 =>
    some o17
  else none
def J_X8_asks_36 (th : Nat) (a1 : Int32) (σ : GS) (u0 : Int32) : Option (GS) :=
  (F_X8_of σ th a1 0).bind fun o5 =>
  if o5 = 4 then
   (
    some σ
   )
  else
   (
    (F_X8_hasJoined σ th a1).bind fun o6 =>
    if o6 = 0 then
     (
      some σ
     )
    else
     (
      (F_X8_of σ th a1 3).bind fun o7 =>
      if o7 = (-1) then
       (
        (F_X8_hasAll σ th a1).bind fun o8 =>
        if o8 = 0 then
         (
          if u0 = 0 then
           (
            some σ
           )
          else
           (
            if (gI σ th 23) = a1 then
             (
              (F_X8_of σ th a1 2).bind fun o11 =>
              if inB o11 (lnG (rfG th 24)) then
                J_X8_asks_105 th a1 σ (gI σ (rfG th 24) o11.toNatClampNeg)
              else none
             )
            else
             (
              (F_X8_byRule σ th a1).bind fun o9 =>
              J_X8_asks_105 th a1 σ o9
             )
           )
         )
        else
         (
          some σ
         )
       )
      else
       (
        some σ
       )
     )
   )
def J_X8_asks_31 (th : Nat) (a1 : Int32) (σ : GS) : Option (GS) :=
  J_X8_asks_36 th a1 σ 1
def F_X8_asks (σ : GS) (th : Nat) (a1 : Int32) : Option (GS) :=
  (F_X8_of σ th a1 1).bind fun o1 =>
  if o1 = 0 then
   (
    J_X8_asks_31 th a1 σ
   )
  else
   (
    (F_X8_of σ th a1 1).bind fun o2 =>
    if inB 0 (lnG (rfG th 1)) then
      if inB 2 (lnG (rfG th 1)) then
        if (gI σ (rfG th 1) (2 : Int32).toNatClampNeg) < (o2 + (gI σ (rfG th 1) (0 : Int32).toNatClampNeg)) then
         (
          J_X8_asks_36 th a1 σ 0
         )
        else
         (
          J_X8_asks_31 th a1 σ
         )
      else none
    else none
   )

def F_X8_needs (σ : GS) (th : Nat) (a1 : Int32) : Option (Int32) :=
  (F_X8_of σ th a1 0).bind fun o1 =>
  if o1 = 4 then
   (
    some 0
   )
  else
   (
    (F_X8_of σ th a1 3).bind fun o2 =>
    if o2 = (-1) then
     (
      some 0
     )
    else
     (
      (F_X8_of σ th a1 4).bind fun o3 =>
      if o3 ≤ 0 then
       (
        some 0
       )
      else
       (
        some 1
       )
     )
   )

def J_X8_gets_20 (th : Nat) (a1 : Int32) (a2 : Int32) (σ : GS) (u0 : Int32) : Option (GS × Int32) :=
  (F_X8_adds σ th a1 4 (-u0)).bind fun o3 =>
  (F_X8_adds o3 th a1 10 u0).bind fun o4 =>
  some (o4, u0)
def F_X8_gets (σ : GS) (th : Nat) (a1 : Int32) (a2 : Int32) : Option (GS × Int32) :=
  (F_X8_of σ th a1 4).bind fun o1 =>
  if o1 ≤ a2 then
   (
    (F_X8_of σ th a1 4).bind fun o2 =>
    J_X8_gets_20 th a1 a2 σ o2
   )
  else
   (
    J_X8_gets_20 th a1 a2 σ a2
   )

def L_X8_weights_4 (th : Nat) : Nat → GS → Int32 → Int32 → Option (Int32)
  | 0, _, _, _ => none
  | n + 1, σ, v1, v2 =>
    if inB 4 (lnG (rfG th 1)) then
      if (gI σ (rfG th 1) (4 : Int32).toNatClampNeg) ≤ v2 then
       (
        some v1
       )
      else
       (
        (F_X8_needs σ th v2).bind fun o2 =>
        if o2 = 0 then
         (
          (L_X8_weights_4 th n) σ (v1 + 0) (v2 + 1)
         )
        else
         (
          (F_X8_of σ th v2 13).bind fun o3 =>
          (L_X8_weights_4 th n) σ (v1 + o3) (v2 + 1)
         )
       )
    else none
def F_X8_weights (σ : GS) (th : Nat) : Option (Int32) :=
  L_X8_weights_4 th NF σ 0 0

def L_X8_givesByWeights_5 (th : Nat) (a1 : Int32) (a2 : Int32) : Nat → GS → Int32 → Int32 → Option (GS × Int32)
  | 0, _, _, _ => none
  | n + 1, σ, v3, v4 =>
    if inB 4 (lnG (rfG th 1)) then
      if (gI σ (rfG th 1) (4 : Int32).toNatClampNeg) ≤ v4 then
       (
        some (σ, v3)
       )
      else
       (
        (F_X8_needs σ th v4).bind fun o2 =>
        if o2 = 0 then
         (
          (L_X8_givesByWeights_5 th a1 a2 n) σ (v3 + 0) (v4 + 1)
         )
        else
         (
          (F_X8_of σ th v4 13).bind fun o3 =>
          if ¬ a2 = 0 then
            (F_X8_gets σ th v4 ((a1 * o3) / a2)).bind fun o4 =>
            (L_X8_givesByWeights_5 th a1 a2 n) o4.1 (v3 + o4.2) (v4 + 1)
          else none
         )
       )
    else none
def F_X8_givesByWeights (σ : GS) (th : Nat) (a1 : Int32) (a2 : Int32) : Option (GS × Int32) :=
  L_X8_givesByWeights_5 th a1 a2 NF σ 0 0

def L_X8_givesOnes_4 (th : Nat) (a1 : Int32) : Nat → GS → Int32 → Int32 → Option (GS × Int32)
  | 0, _, _, _ => none
  | n + 1, σ, v2, v3 =>
    if inB 4 (lnG (rfG th 1)) then
      if (gI σ (rfG th 1) (4 : Int32).toNatClampNeg) ≤ v3 then
       (
        some (σ, v2)
       )
      else
       (
        if a1 ≤ v2 then
         (
          some (σ, v2)
         )
        else
         (
          (F_X8_needs σ th v3).bind fun o2 =>
          if o2 = 0 then
           (
            (L_X8_givesOnes_4 th a1 n) σ (v2 + 0) (v3 + 1)
           )
          else
           (
            (F_X8_gets σ th v3 1).bind fun o3 =>
            (L_X8_givesOnes_4 th a1 n) o3.1 (v2 + o3.2) (v3 + 1)
           )
         )
       )
    else none
def F_X8_givesOnes (σ : GS) (th : Nat) (a1 : Int32) : Option (GS × Int32) :=
  L_X8_givesOnes_4 th a1 NF σ 0 0

def J_X8_shares_66 (th : Nat) (σ : GS) (v1 : Int32) : Option (GS) :=
  if inB 9 (lnG (rfG th 3)) then
    if inB 9 (lnG (rfG th 3)) then
      let σ11 := sI σ (rfG th 3) (9 : Int32).toNatClampNeg ((gI σ (rfG th 3) (9 : Int32).toNatClampNeg) - v1)
      if inB 10 (lnG (rfG th 3)) then
        if inB 10 (lnG (rfG th 3)) then
          let σ13 := sI σ11 (rfG th 3) (10 : Int32).toNatClampNeg ((gI σ11 (rfG th 3) (10 : Int32).toNatClampNeg) + v1)
          some σ13
        else none
      else none
    else none
  else none
def L_X8_shares_27 (th : Nat) : Nat → GS → Int32 → Int32 → Option (GS)
  | 0, _, _, _ => none
  | n + 1, σ, v1, v2 =>
    if v1 ≤ 0 then
     (
      J_X8_shares_66 th σ v1
     )
    else
     (
      if v2 ≤ 0 then
       (
        J_X8_shares_66 th σ v1
       )
      else
       (
        (F_X8_givesByWeights σ th v1 v2).bind fun o6 =>
        if o6.2 ≤ 0 then
         (
          (F_X8_givesOnes o6.1 th v1).bind fun o7 =>
          (F_X8_weights o7.1 th).bind fun o8 =>
          (L_X8_shares_27 th n) o7.1 (v1 - o7.2) o8
         )
        else
         (
          (F_X8_weights o6.1 th).bind fun o9 =>
          (L_X8_shares_27 th n) o6.1 (v1 - o6.2) o9
         )
       )
     )
def F_X8_shares (σ : GS) (th : Nat) : Option (GS) :=
  if inB 0 (lnG (rfG th 3)) then
    (F_X8_rateAt σ th (gI σ (rfG th 3) (0 : Int32).toNatClampNeg)).bind fun o2 =>
    (F_X8_weights σ th).bind fun o3 =>
    if inB 9 (lnG (rfG th 3)) then
      if inB 9 (lnG (rfG th 3)) then
        let σ5 := sI σ (rfG th 3) (9 : Int32).toNatClampNeg ((gI σ (rfG th 3) (9 : Int32).toNatClampNeg) + o2)
        L_X8_shares_27 th NF σ5 o2 o3
      else none
    else none
  else none

def J_X8_comes_56 (th : Nat) (a1 : Int32) (σ : GS) (v2 : Int32) (v3 : Int32) (u0 : Int32) : Option (GS) :=
  (F_X8_adds σ th a1 8 u0).bind fun o6 =>
  (F_X8_adds o6 th a1 9 v3).bind fun o7 =>
  (F_X8_sizeAt o7 th a1 v2 v3).bind fun o8 =>
  if inB 0 (lnG (rfG th 3)) then
    (F_X8_of o7 th a1 14).bind fun o10 =>
    if ¬ (((gI o7 (rfG th 3) (0 : Int32).toNatClampNeg) - o10) + 1) = 0 then
      (F_X8_sets o7 th a1 11 (o8 / (((gI o7 (rfG th 3) (0 : Int32).toNatClampNeg) - o10) + 1))).bind fun o11 =>
      (F_X8_sets o11 th a1 (15 + (3 * v2)) v3).bind fun o12 =>
      (F_X8_of o12 th a1 14).bind fun o13 =>
      (F_X8_sets o12 th a1 ((15 + (3 * v2)) + 1) o13).bind fun o14 =>
      if inB 0 (lnG (rfG th 3)) then
        (F_X8_sets o14 th a1 ((15 + (3 * v2)) + 2) (gI o14 (rfG th 3) (0 : Int32).toNatClampNeg)).bind fun o16 =>
        (F_X8_sets o16 th a1 2 (v2 + 1)).bind fun o17 =>
        (F_X8_sets o17 th a1 3 (-1)).bind fun o18 =>
        if inB 12 (lnG (rfG th 3)) then
          if inB 12 (lnG (rfG th 3)) then
            let σ20 := sI o18 (rfG th 3) (12 : Int32).toNatClampNeg ((gI o18 (rfG th 3) (12 : Int32).toNatClampNeg) + 1)
            some σ20
          else none
        else none
      else none
    else none
  else none
def J_X8_comes_55 (th : Nat) (a1 : Int32) (σ : GS) (v2 : Int32) (v3 : Int32) : Option (GS) :=
  J_X8_comes_56 th a1 σ v2 v3 0
def F_X8_comes (σ : GS) (th : Nat) (a1 : Int32) : Option (GS) :=
  (F_X8_of σ th a1 2).bind fun o1 =>
  (F_X8_of σ th a1 3).bind fun o2 =>
  if inB 0 (lnG (rfG th 1)) then
    (F_X8_adds σ th a1 1 (gI σ (rfG th 1) (0 : Int32).toNatClampNeg)).bind fun o4 =>
    if o1 ≤ 0 then
     (
      J_X8_comes_55 th a1 o4 o1 o2
     )
    else
     (
      (F_X8_of o4 th a1 ((15 + (3 * o1)) - 3)).bind fun o5 =>
      if o5 = o2 then
       (
        J_X8_comes_55 th a1 o4 o1 o2
       )
      else
       (
        J_X8_comes_56 th a1 o4 o1 o2 1
       )
     )
  else none

def J_X8_plays_157 (th : Nat) (a1 : Int32) (σ : GS) : Option (GS) :=
  (F_X8_hasAll σ th a1).bind fun o20 =>
  if o20 = 0 then
   (
    some σ
   )
  else
   (
    (F_X8_of σ th a1 1).bind fun o21 =>
    if o21 = 0 then
     (
      (F_X8_sets σ th a1 0 3).bind fun o22 =>
      some o22
     )
    else
     (
      some σ
     )
   )
def J_X8_plays_128 (th : Nat) (a1 : Int32) (σ : GS) : Option (GS) :=
  (F_X8_of σ th a1 0).bind fun o16 =>
  if o16 = 2 then
   (
    (F_X8_adds σ th a1 6 1).bind fun o17 =>
    if inB 11 (lnG (rfG th 3)) then
      if inB 11 (lnG (rfG th 3)) then
        let σ19 := sI o17 (rfG th 3) (11 : Int32).toNatClampNeg ((gI o17 (rfG th 3) (11 : Int32).toNatClampNeg) + 1)
        J_X8_plays_157 th a1 σ19
      else none
    else none
   )
  else
   (
    J_X8_plays_157 th a1 σ
   )
def J_X8_plays_95 (th : Nat) (a1 : Int32) (σ : GS) : Option (GS) :=
  (F_X8_of σ th a1 0).bind fun o12 =>
  if o12 = 1 then
   (
    (F_X8_hasAll σ th a1).bind fun o13 =>
    if o13 = 0 then
     (
      (F_X8_sets σ th a1 0 2).bind fun o14 =>
      (F_X8_adds o14 th a1 7 1).bind fun o15 =>
      J_X8_plays_128 th a1 o15
     )
    else
     (
      J_X8_plays_128 th a1 σ
     )
   )
  else
   (
    J_X8_plays_128 th a1 σ
   )
def J_X8_plays_59 (th : Nat) (a1 : Int32) (σ : GS) : Option (GS) :=
  (F_X8_of σ th a1 0).bind fun o7 =>
  if o7 = 1 then
   (
    (F_X8_of σ th a1 1).bind fun o8 =>
    if o8 ≤ 0 then
     (
      J_X8_plays_95 th a1 σ
     )
    else
     (
      (F_X8_adds σ th a1 1 (-1)).bind fun o9 =>
      (F_X8_adds o9 th a1 5 1).bind fun o10 =>
      J_X8_plays_128 th a1 o10
     )
   )
  else
   (
    J_X8_plays_95 th a1 σ
   )
def J_X8_plays_52 (th : Nat) (a1 : Int32) (σ : GS) : Option (GS) :=
  (F_X8_sets σ th a1 0 1).bind fun o11 =>
  J_X8_plays_59 th a1 o11
def F_X8_plays (σ : GS) (th : Nat) (a1 : Int32) : Option (GS) :=
  (F_X8_of σ th a1 0).bind fun o1 =>
  if (3 : Int32) ≤ o1 then
   (
    some σ
   )
  else
   (
    (F_X8_hasJoined σ th a1).bind fun o2 =>
    if o2 = 0 then
     (
      some σ
     )
    else
     (
      (F_X8_of σ th a1 0).bind fun o3 =>
      if o3 = 1 then
       (
        J_X8_plays_59 th a1 σ
       )
      else
       (
        (F_X8_of σ th a1 1).bind fun o4 =>
        if inB 1 (lnG (rfG th 1)) then
          if (gI σ (rfG th 1) (1 : Int32).toNatClampNeg) ≤ o4 then
           (
            J_X8_plays_52 th a1 σ
           )
          else
           (
            (F_X8_hasAll σ th a1).bind fun o6 =>
            if o6 = 0 then
             (
              J_X8_plays_59 th a1 σ
             )
            else
             (
              J_X8_plays_52 th a1 σ
             )
           )
        else none
       )
     )
   )

def L_X8_passes_81 (th : Nat) : Nat → GS → Int32 → Option (GS)
  | 0, _, _ => none
  | n + 1, σ, v1 =>
    if inB 4 (lnG (rfG th 1)) then
      if (gI σ (rfG th 1) (4 : Int32).toNatClampNeg) ≤ v1 then
       (
        if inB 0 (lnG (rfG th 3)) then
          if inB 0 (lnG (rfG th 3)) then
            let σ11 := sI σ (rfG th 3) (0 : Int32).toNatClampNeg ((gI σ (rfG th 3) (0 : Int32).toNatClampNeg) + 1)
            some σ11
          else none
        else none
       )
      else
       (
        (F_X8_plays σ th v1).bind fun o12 =>
        (L_X8_passes_81 th n) o12 (v1 + 1)
       )
    else none
def L_X8_passes_29 (th : Nat) : Nat → GS → Int32 → Option (GS)
  | 0, _, _ => none
  | n + 1, σ, v1 =>
    if inB 4 (lnG (rfG th 1)) then
      if (gI σ (rfG th 1) (4 : Int32).toNatClampNeg) ≤ v1 then
       (
        L_X8_passes_81 th NF σ 0
       )
      else
       (
        (F_X8_of σ th v1 0).bind fun o5 =>
        if o5 = 4 then
         (
          (L_X8_passes_29 th n) σ (v1 + 1)
         )
        else
         (
          (F_X8_of σ th v1 3).bind fun o6 =>
          if o6 = (-1) then
           (
            (L_X8_passes_29 th n) σ (v1 + 1)
           )
          else
           (
            (F_X8_of σ th v1 4).bind fun o7 =>
            if o7 = 0 then
             (
              (F_X8_comes σ th v1).bind fun o8 =>
              (L_X8_passes_29 th n) o8 (v1 + 1)
             )
            else
             (
              (L_X8_passes_29 th n) σ (v1 + 1)
             )
           )
         )
       )
    else none
def L_X8_passes_2 (th : Nat) : Nat → GS → Int32 → Option (GS)
  | 0, _, _ => none
  | n + 1, σ, v1 =>
    if inB 4 (lnG (rfG th 1)) then
      if (gI σ (rfG th 1) (4 : Int32).toNatClampNeg) ≤ v1 then
       (
        (F_X8_shares σ th).bind fun o2 =>
        L_X8_passes_29 th NF o2 0
       )
      else
       (
        (F_X8_asks σ th v1).bind fun o3 =>
        (L_X8_passes_2 th n) o3 (v1 + 1)
       )
    else none
def F_X8_passes (σ : GS) (th : Nat) : Option (GS) :=
  L_X8_passes_2 th NF σ 0

def L_X8_isOver_4 (th : Nat) : Nat → GS → Int32 → Int32 → Option (Int32)
  | 0, _, _, _ => none
  | n + 1, σ, v1, v2 =>
    if inB 4 (lnG (rfG th 1)) then
      if (gI σ (rfG th 1) (4 : Int32).toNatClampNeg) ≤ v2 then
       (
        if v1 = 0 ∨ v1 = 1 then
          some v1
        else none
       )
      else
       (
        if v1 = 0 then
         (
          (L_X8_isOver_4 th n) σ 0 (v2 + 1)
         )
        else
         (
          (F_X8_of σ th v2 0).bind fun o2 =>
          if o2 < 3 then
           (
            (L_X8_isOver_4 th n) σ 0 (v2 + 1)
           )
          else
           (
            (L_X8_isOver_4 th n) σ 1 (v2 + 1)
           )
         )
       )
    else none
def F_X8_isOver (σ : GS) (th : Nat) : Option (Int32) :=
  L_X8_isOver_4 th NF σ 1 0

def F_X8_hasNone (σ : GS) (th : Nat) (a1 : Int32) : Option (Int32) :=
  (F_X8_of σ th a1 0).bind fun o1 =>
  if o1 = 4 then
   (
    some 1
   )
  else
   (
    (F_X8_askedMany σ th a1).bind fun o2 =>
    (F_X8_toldOf σ th a1 0).bind fun o3 =>
    if o2 = o3 then
     (
      some 1
     )
    else
     (
      some 0
     )
   )

def L_X8_loading_4 (th : Nat) : Nat → GS → Int32 → Int32 → Option (Int32)
  | 0, _, _, _ => none
  | n + 1, σ, v1, v2 =>
    if inB 4 (lnG (rfG th 1)) then
      if (gI σ (rfG th 1) (4 : Int32).toNatClampNeg) ≤ v2 then
       (
        some v1
       )
      else
       (
        (F_X8_of σ th v2 0).bind fun o2 =>
        if o2 = 4 then
         (
          (L_X8_loading_4 th n) σ (v1 + 0) (v2 + 1)
         )
        else
         (
          (F_X8_of σ th v2 3).bind fun o3 =>
          if o3 = (-1) then
           (
            (L_X8_loading_4 th n) σ (v1 + 0) (v2 + 1)
           )
          else
           (
            (L_X8_loading_4 th n) σ (v1 + 1) (v2 + 1)
           )
         )
       )
    else none
def F_X8_loading (σ : GS) (th : Nat) : Option (Int32) :=
  L_X8_loading_4 th NF σ 0 0

def L_X8_doneMany_4 (th : Nat) : Nat → GS → Int32 → Int32 → Option (Int32)
  | 0, _, _, _ => none
  | n + 1, σ, v1, v2 =>
    if inB 4 (lnG (rfG th 1)) then
      if (gI σ (rfG th 1) (4 : Int32).toNatClampNeg) ≤ v2 then
       (
        some v1
       )
      else
       (
        (F_X8_of σ th v2 0).bind fun o2 =>
        if o2 = 3 then
         (
          (L_X8_doneMany_4 th n) σ (v1 + 1) (v2 + 1)
         )
        else
         (
          (L_X8_doneMany_4 th n) σ (v1 + 0) (v2 + 1)
         )
       )
    else none
def F_X8_doneMany (σ : GS) (th : Nat) : Option (Int32) :=
  L_X8_doneMany_4 th NF σ 0 0

def J_X8_size_21 (th : Nat) (a1 : Int32) (σ : GS) (u0 : Int32) : Option (GS × Int32) :=
  (F_X8_throwsIf σ th u0 1).bind fun o3 =>
  if o3.2 = 0 then
   (
    if a1 = 0 then
     (
      if inB 4 (lnG (rfG th 1)) then
        some (o3.1, gI o3.1 (rfG th 1) (4 : Int32).toNatClampNeg)
      else none
     )
    else
    if a1 = 1 then
     (
      if inB 5 (lnG (rfG th 1)) then
        some (o3.1, gI o3.1 (rfG th 1) (5 : Int32).toNatClampNeg)
      else none
     )
    else
    if a1 = 2 then
     (
      if inB (a1 - 2) (lnG (rfG th 1)) then
        some (o3.1, gI o3.1 (rfG th 1) (a1 - 2).toNatClampNeg)
      else none
     )
    else
    if a1 = 3 then
     (
      if inB (a1 - 2) (lnG (rfG th 1)) then
        some (o3.1, gI o3.1 (rfG th 1) (a1 - 2).toNatClampNeg)
      else none
     )
    else
    if a1 = 4 then
     (
      if inB (a1 - 2) (lnG (rfG th 1)) then
        some (o3.1, gI o3.1 (rfG th 1) (a1 - 2).toNatClampNeg)
      else none
     )
    else
    if a1 = 5 then
     (
      if inB (a1 - 2) (lnG (rfG th 1)) then
        some (o3.1, gI o3.1 (rfG th 1) (a1 - 2).toNatClampNeg)
      else none
     )
    else
    if a1 = 6 then
     (
      if inB 6 (lnG (rfG th 1)) then
        some (o3.1, gI o3.1 (rfG th 1) (6 : Int32).toNatClampNeg)
      else none
     )
    else
    if a1 = 7 then
     (
      if inB 0 (lnG (rfG th 3)) then
        some (o3.1, gI o3.1 (rfG th 3) (0 : Int32).toNatClampNeg)
      else none
     )
    else
    if a1 = 8 then
     (
      (F_X8_loading o3.1 th).bind fun o13 =>
      some (o3.1, o13)
     )
    else
    if a1 = 9 then
     (
      (F_X8_doneMany o3.1 th).bind fun o14 =>
      some (o3.1, o14)
     )
    else
    if a1 = 10 then
     (
      some (o3.1, gI o3.1 th 26)
     )
    else
    if inB (a1 - 2) (lnG (rfG th 1)) then
      some (o3.1, gI o3.1 (rfG th 1) (a1 - 2).toNatClampNeg)
    else none
   )
  else
   (
    some (o3.1, 0)
   )
def F_X8_size (σ : GS) (th : Nat) (a1 : Int32) : Option (GS × Int32) :=
  let σ1 := sI σ th 0 0
  (F_X8_within σ1 a1 0 10).bind fun o2 =>
  if o2 = 0 then
   (
    J_X8_size_21 th a1 σ1 1
   )
  else
   (
    J_X8_size_21 th a1 σ1 0
   )

def J_X8_rate_15 (th : Nat) (a1 : Int32) (σ : GS) (u0 : Int32) : Option (GS × Int32) :=
  (F_X8_throwsIf σ th u0 1).bind fun o2 =>
  if o2.2 = 0 then
   (
    (F_X8_rateAt o2.1 th a1).bind fun o3 =>
    some (o2.1, o3)
   )
  else
   (
    some (o2.1, 0)
   )
def F_X8_rate (σ : GS) (th : Nat) (a1 : Int32) : Option (GS × Int32) :=
  let σ1 := sI σ th 0 0
  if (0 : Int32) ≤ a1 then
   (
    J_X8_rate_15 th a1 σ1 0
   )
  else
   (
    J_X8_rate_15 th a1 σ1 1
   )

def F_X8_no (σ : GS) (th : Nat) (a1 : Int32) (a2 : Int32) : Option (GS × Int32) :=
  (F_X8_within σ a1 0 (a2 - 1)).bind fun o1 =>
  if o1 = 0 then
   (
    (F_X8_throwsIf σ th 1 1).bind fun o3 =>
    if o3.2 = 0 ∨ o3.2 = 1 then
      some (o3.1, o3.2)
    else none
   )
  else
   (
    (F_X8_throwsIf σ th 0 1).bind fun o2 =>
    if o2.2 = 0 ∨ o2.2 = 1 then
      some (o2.1, o2.2)
    else none
   )

def F_X8_noPlayer (σ : GS) (th : Nat) (a1 : Int32) : Option (GS × Int32) :=
  let σ1 := sI σ th 0 0
  if inB 4 (lnG (rfG th 1)) then
    (F_X8_no σ1 th a1 (gI σ1 (rfG th 1) (4 : Int32).toNatClampNeg)).bind fun o3 =>
    if o3.2 = 0 ∨ o3.2 = 1 then
      some (o3.1, o3.2)
    else none
  else none

def J_X8_player_24 (th : Nat) (a1 : Int32) (a2 : Int32) (σ : GS) (u0 : Int32) : Option (GS × Int32) :=
  (F_X8_throwsIf σ th u0 2).bind fun o3 =>
  if o3.2 = 0 then
   (
    if a2 = 4 then
     (
      (F_X8_of o3.1 th a1 3).bind fun o6 =>
      if o6 = (-1) then
       (
        some (o3.1, 0)
       )
      else
       (
        (F_X8_of o3.1 th a1 4).bind fun o7 =>
        some (o3.1, o7)
       )
     )
    else
     (
      if (14 : Int32) ≤ a2 then
       (
        (F_X8_toldOf o3.1 th a1 (a2 - 14)).bind fun o4 =>
        some (o3.1, o4)
       )
      else
       (
        (F_X8_of o3.1 th a1 a2).bind fun o5 =>
        some (o3.1, o5)
       )
     )
   )
  else
   (
    some (o3.1, 0)
   )
def F_X8_player (σ : GS) (th : Nat) (a1 : Int32) (a2 : Int32) : Option (GS × Int32) :=
  (F_X8_noPlayer σ th a1).bind fun o1 =>
  if o1.2 = 0 then
   (
    (F_X8_within o1.1 a2 0 16).bind fun o2 =>
    if o2 = 0 then
     (
      J_X8_player_24 th a1 a2 o1.1 1
     )
    else
     (
      J_X8_player_24 th a1 a2 o1.1 0
     )
   )
  else
   (
    some (o1.1, 0)
   )

def J_X8_loaded_23 (th : Nat) (a1 : Int32) (a2 : Int32) (a3 : Int32) (σ : GS) (u0 : Int32) : Option (GS × Int32) :=
  (F_X8_throwsIf σ th u0 2).bind fun o3 =>
  if o3.2 = 0 then
   (
    (F_X8_of o3.1 th a1 2).bind fun o4 =>
    (F_X8_within o3.1 a2 0 (o4 - 1)).bind fun o5 =>
    if o5 = 0 then
     (
      some (o3.1, (-1))
     )
    else
     (
      (F_X8_of o3.1 th a1 (15 + (3 * a2))).bind fun o6 =>
      if a3 = 0 then
       (
        some (o3.1, o6)
       )
      else
       (
        if a3 = 1 then
         (
          (F_X8_sizeAt o3.1 th a1 a2 o6).bind fun o8 =>
          some (o3.1, o8)
         )
        else
         (
          (F_X8_of o3.1 th a1 (((15 + (3 * a2)) + a3) - 1)).bind fun o7 =>
          some (o3.1, o7)
         )
       )
     )
   )
  else
   (
    some (o3.1, 0)
   )
def F_X8_loaded (σ : GS) (th : Nat) (a1 : Int32) (a2 : Int32) (a3 : Int32) : Option (GS × Int32) :=
  (F_X8_noPlayer σ th a1).bind fun o1 =>
  if o1.2 = 0 then
   (
    (F_X8_within o1.1 a3 0 3).bind fun o2 =>
    if o2 = 0 then
     (
      J_X8_loaded_23 th a1 a2 a3 o1.1 1
     )
    else
     (
      J_X8_loaded_23 th a1 a2 a3 o1.1 0
     )
   )
  else
   (
    some (o1.1, 0)
   )

def J_X8_sizeOf_46 (th : Nat) (a1 : Int32) (a2 : Int32) (a3 : Int32) (σ : GS) (u0 : Int32) : Option (GS × Int32) :=
  (F_X8_throwsIf σ th u0 2).bind fun o6 =>
  if o6.2 = 0 then
   (
    (F_X8_sizeAt o6.1 th a1 a2 a3).bind fun o7 =>
    some (o6.1, o7)
   )
  else
   (
    some (o6.1, 0)
   )
def J_X8_sizeOf_41 (th : Nat) (a1 : Int32) (a2 : Int32) (a3 : Int32) (σ : GS) : Option (GS × Int32) :=
  J_X8_sizeOf_46 th a1 a2 a3 σ 1
def F_X8_sizeOf (σ : GS) (th : Nat) (a1 : Int32) (a2 : Int32) (a3 : Int32) : Option (GS × Int32) :=
  (F_X8_noPlayer σ th a1).bind fun o1 =>
  if o1.2 = 0 then
   (
    (F_X8_toldOf o1.1 th a1 0).bind fun o2 =>
    (F_X8_within o1.1 a2 0 (o2 - 1)).bind fun o3 =>
    if o3 = 0 then
     (
      J_X8_sizeOf_41 th a1 a2 a3 o1.1
     )
    else
     (
      (F_X8_toldOf o1.1 th a1 1).bind fun o4 =>
      (F_X8_within o1.1 a3 0 (o4 - 1)).bind fun o5 =>
      if o5 = 0 then
       (
        J_X8_sizeOf_41 th a1 a2 a3 o1.1
       )
      else
       (
        J_X8_sizeOf_46 th a1 a2 a3 o1.1 0
       )
     )
   )
  else
   (
    some (o1.1, 0)
   )

def F_X8_wouldChoose (σ : GS) (th : Nat) (a1 : Int32) : Option (GS × Int32) :=
  (F_X8_noPlayer σ th a1).bind fun o1 =>
  if o1.2 = 0 then
   (
    (F_X8_hasNone o1.1 th a1).bind fun o2 =>
    if o2 = 0 then
     (
      (F_X8_byRule o1.1 th a1).bind fun o3 =>
      some (o1.1, o3)
     )
    else
     (
      some (o1.1, (-1))
     )
   )
  else
   (
    some (o1.1, 0)
   )

def L_X8_fairness_12 (th : Nat) : Nat → GS → UInt64 → UInt64 → Int32 → Option (GS × UInt64)
  | 0, _, _, _, _ => none
  | n + 1, σ, v1, v3, v5 =>
    if inB 4 (lnG (rfG th 1)) then
      if (gI σ (rfG th 1) (4 : Int32).toNatClampNeg) ≤ v5 then
       (
        if (Op.cmpValue (FP.dcmp v3 FP.dconst0) CmpOp.l) = 0 then
         (
          some (σ, FP.dconst1)
         )
        else
         (
          if nN (FP.dmul v1 v1) then
            if inB 4 (lnG (rfG th 1)) then
              if nN (FP.dmul (FP.i2d (gI σ (rfG th 1) (4 : Int32).toNatClampNeg)) v3) then
                if nN (FP.ddiv (FP.dmul v1 v1) (FP.dmul (FP.i2d (gI σ (rfG th 1) (4 : Int32).toNatClampNeg)) v3)) then
                  some (σ, FP.ddiv (FP.dmul v1 v1) (FP.dmul (FP.i2d (gI σ (rfG th 1) (4 : Int32).toNatClampNeg)) v3))
                else none
              else none
            else none
          else none
         )
       )
      else
       (
        (F_X8_of σ th v5 10).bind fun o4 =>
        (F_X8_of σ th v5 13).bind fun o5 =>
        if nN (FP.ddiv (FP.i2d o4) (FP.i2d o5)) then
          if nN (FP.dadd v1 (FP.ddiv (FP.i2d o4) (FP.i2d o5))) then
            if nN (FP.dmul (FP.ddiv (FP.i2d o4) (FP.i2d o5)) (FP.ddiv (FP.i2d o4) (FP.i2d o5))) then
              if nN (FP.dadd v3 (FP.dmul (FP.ddiv (FP.i2d o4) (FP.i2d o5)) (FP.ddiv (FP.i2d o4) (FP.i2d o5)))) then
                (L_X8_fairness_12 th n) σ (FP.dadd v1 (FP.ddiv (FP.i2d o4) (FP.i2d o5))) (FP.dadd v3 (FP.dmul (FP.ddiv (FP.i2d o4) (FP.i2d o5)) (FP.ddiv (FP.i2d o4) (FP.i2d o5)))) (v5 + 1)
              else none
            else none
          else none
        else none
       )
    else none
def F_X8_fairness (σ : GS) (th : Nat) : Option (GS × UInt64) :=
  let σ1 := sI σ th 0 0
  L_X8_fairness_12 th NF σ1 FP.dconst0 FP.dconst0 0

def F_X8_meanQuality (σ : GS) (th : Nat) (a1 : Int32) : Option (GS × UInt64) :=
  (F_X8_noPlayer σ th a1).bind fun o1 =>
  if o1.2 = 0 then
   (
    (F_X8_of o1.1 th a1 2).bind fun o2 =>
    if o2 = 0 then
     (
      some (o1.1, FP.dconst0)
     )
    else
     (
      (F_X8_of o1.1 th a1 9).bind fun o3 =>
      (F_X8_of o1.1 th a1 2).bind fun o4 =>
      if nN (FP.ddiv (FP.i2d o3) (FP.i2d o4)) then
        some (o1.1, FP.ddiv (FP.i2d o3) (FP.i2d o4))
      else none
     )
   )
  else
   (
    some (o1.1, FP.dconst0)
   )

def L_X8_bytesTold_41 (th : Nat) (a1 : Int32) : Nat → GS → Int32 → Int32 → Option (Int32)
  | 0, _, _, _ => none
  | n + 1, σ, v2, v3 =>
    (F_X8_of σ th a1 2).bind fun o6 =>
    if o6 ≤ v3 then
     (
      some v2
     )
    else
     (
      (F_X8_of σ th a1 (15 + (3 * v3))).bind fun o7 =>
      (F_X8_sizeAt σ th a1 v3 o7).bind fun o8 =>
      (L_X8_bytesTold_41 th a1 n) σ (v2 + o8) (v3 + 1)
     )
def F_X8_bytesTold (σ : GS) (th : Nat) (a1 : Int32) : Option (Int32) :=
  (F_X8_of σ th a1 3).bind fun o1 =>
  if o1 = (-1) then
   (
    L_X8_bytesTold_41 th a1 NF σ 0 0
   )
  else
   (
    (F_X8_of σ th a1 2).bind fun o2 =>
    (F_X8_of σ th a1 3).bind fun o3 =>
    (F_X8_sizeAt σ th a1 o2 o3).bind fun o4 =>
    (F_X8_of σ th a1 4).bind fun o5 =>
    L_X8_bytesTold_41 th a1 NF σ (o4 - o5) 0
   )

def L_X8_isWhole_11 (th : Nat) : Nat → GS → Int32 → Int32 → Int32 → Option (GS × Int32)
  | 0, _, _, _, _ => none
  | n + 1, σ, v1, v2, v3 =>
    if inB 4 (lnG (rfG th 1)) then
      if (gI σ (rfG th 1) (4 : Int32).toNatClampNeg) ≤ v3 then
       (
        if v2 = 0 then
         (
          some (σ, 0)
         )
        else
         (
          if inB 9 (lnG (rfG th 3)) then
            if v1 = (gI σ (rfG th 3) (9 : Int32).toNatClampNeg) then
             (
              some (σ, 1)
             )
            else
             (
              some (σ, 0)
             )
          else none
         )
       )
      else
       (
        (F_X8_of σ th v3 10).bind fun o4 =>
        if v2 = 0 then
         (
          (L_X8_isWhole_11 th n) σ (v1 + o4) 0 (v3 + 1)
         )
        else
         (
          (F_X8_bytesTold σ th v3).bind fun o5 =>
          (F_X8_of σ th v3 10).bind fun o6 =>
          if o5 = o6 then
           (
            (F_X8_of σ th v3 5).bind fun o7 =>
            (F_X8_of σ th v3 1).bind fun o8 =>
            (F_X8_of σ th v3 2).bind fun o9 =>
            if inB 0 (lnG (rfG th 1)) then
              if (o7 + o8) = (o9 * (gI σ (rfG th 1) (0 : Int32).toNatClampNeg)) then
               (
                (L_X8_isWhole_11 th n) σ (v1 + o4) 1 (v3 + 1)
               )
              else
               (
                (L_X8_isWhole_11 th n) σ (v1 + o4) 0 (v3 + 1)
               )
            else none
           )
          else
           (
            (L_X8_isWhole_11 th n) σ (v1 + o4) 0 (v3 + 1)
           )
         )
       )
    else none
def F_X8_isWhole (σ : GS) (th : Nat) : Option (GS × Int32) :=
  let σ1 := sI σ th 0 0
  L_X8_isWhole_11 th NF σ1 0 1 0

def J_X8_account_20 (th : Nat) (a1 : Int32) (σ : GS) (u0 : Int32) : Option (GS × Int32) :=
  (F_X8_throwsIf σ th u0 1).bind fun o3 =>
  if o3.2 = 0 then
   (
    if inB (9 + a1) (lnG (rfG th 3)) then
      some (o3.1, gI o3.1 (rfG th 3) (9 + a1).toNatClampNeg)
    else none
   )
  else
   (
    some (o3.1, 0)
   )
def F_X8_account (σ : GS) (th : Nat) (a1 : Int32) : Option (GS × Int32) :=
  let σ1 := sI σ th 0 0
  (F_X8_within σ1 a1 0 3).bind fun o2 =>
  if o2 = 0 then
   (
    J_X8_account_20 th a1 σ1 1
   )
  else
   (
    J_X8_account_20 th a1 σ1 0
   )

def L_X8_copies_3 (a1 : Nat) (a2 : Int32) (a3 : Nat) (a4 : Int32) : Nat → GS → Int32 → Option (GS)
  | 0, _, _ => none
  | n + 1, σ, v4 =>
    if (437 : Int32) ≤ v4 then
     (
      some σ
     )
    else
     (
      if inB (a2 + v4) (lnG a1) then
        if inB (a4 + v4) (lnG a3) then
          let σ1 := sI σ a3 (a4 + v4).toNatClampNeg (gI σ a1 (a2 + v4).toNatClampNeg)
          (L_X8_copies_3 a1 a2 a3 a4 n) σ1 (v4 + 1)
        else none
      else none
     )
def F_X8_copies (σ : GS) (a1 : Nat) (a2 : Int32) (a3 : Nat) (a4 : Int32) : Option (GS) :=
  L_X8_copies_3 a1 a2 a3 a4 NF σ 0

def J_X8_keeps_58 (th : Nat) (σ : GS) : Option (GS) :=
  (F_X8_copies σ (rfG th 3) 0 (rfG th 27) (437 * (gI σ th 26))).bind fun o4 =>
  let σ5 := sI o4 th 26 ((gI o4 th 26) + 1)
  some σ5
def L_X8_keeps_21 (th : Nat) : Nat → GS → Int32 → Option (GS)
  | 0, _, _ => none
  | n + 1, σ, v1 =>
    if (gI σ th 26) ≤ v1 then
     (
      J_X8_keeps_58 th σ
     )
    else
     (
      (F_X8_copies σ (rfG th 27) (437 * (v1 + 1)) (rfG th 27) (437 * v1)).bind fun o8 =>
      (L_X8_keeps_21 th n) o8 (v1 + 1)
     )
def F_X8_keeps (σ : GS) (th : Nat) : Option (GS) :=
  if (gI σ th 26) = 10 then
   (
    let σ1 := sI σ th 26 ((gI σ th 26) - 1)
    L_X8_keeps_21 th NF σ1 0
   )
  else
   (
    J_X8_keeps_58 th σ
   )

def F_X8_undo (σ : GS) (th : Nat) : Option (GS × Int32) :=
  let σ1 := sI σ th 0 0
  if (gI σ1 th 26) = 0 then
   (
    some (σ1, (-1))
   )
  else
   (
    let σ2 := sI σ1 th 26 ((gI σ1 th 26) - 1)
    (F_X8_copies σ2 (rfG th 27) (437 * (gI σ2 th 26)) (rfG th 3) 0).bind fun o5 =>
    some (o5, gI o5 th 26)
   )

def F_X8_noSlot (σ : GS) (th : Nat) (a1 : Int32) : Option (GS × Int32) :=
  let σ1 := sI σ th 0 0
  (F_X8_no σ1 th a1 2).bind fun o2 =>
  if o2.2 = 0 ∨ o2.2 = 1 then
    some (o2.1, o2.2)
  else none

def F_X8_saveSnapshot (σ : GS) (th : Nat) (a1 : Int32) : Option (GS × Int32) :=
  (F_X8_noSlot σ th a1).bind fun o1 =>
  if o1.2 = 0 then
   (
    if inB a1 (lnG (rfG th 29)) then
      (F_X8_copies o1.1 (rfG th 3) 0 (rfG th 28) (437 * a1)).bind fun o5 =>
      if inB a1 (lnG (rfG th 29)) then
        let σ7 := sI o5 (rfG th 29) a1.toNatClampNeg 1
        if (gI o1.1 (rfG th 29) a1.toNatClampNeg) = 0 ∨ (gI o1.1 (rfG th 29) a1.toNatClampNeg) = 1 then
          some (σ7, gI o1.1 (rfG th 29) a1.toNatClampNeg)
        else none
      else none
    else none
   )
  else
   (
    some (o1.1, 0)
   )

def J_X8_restoreSnapshot_23 (th : Nat) (a1 : Int32) (σ : GS) (u0 : Int32) : Option (GS × Int32) :=
  (F_X8_throwsIf σ th u0 2).bind fun o3 =>
  if o3.2 = 0 then
   (
    (F_X8_copies o3.1 (rfG th 28) (437 * a1) (rfG th 3) 0).bind fun o6 =>
    let σ7 := sI o6 th 26 0
    if inB 0 (lnG (rfG th 3)) then
      some (σ7, gI σ7 (rfG th 3) (0 : Int32).toNatClampNeg)
    else none
   )
  else
   (
    some (o3.1, 0)
   )
def F_X8_restoreSnapshot (σ : GS) (th : Nat) (a1 : Int32) : Option (GS × Int32) :=
  (F_X8_noSlot σ th a1).bind fun o1 =>
  if o1.2 = 0 then
   (
    if inB a1 (lnG (rfG th 29)) then
      if (gI o1.1 (rfG th 29) a1.toNatClampNeg) = 0 then
       (
        J_X8_restoreSnapshot_23 th a1 o1.1 1
       )
      else
       (
        J_X8_restoreSnapshot_23 th a1 o1.1 0
       )
    else none
   )
  else
   (
    some (o1.1, 0)
   )

def F_X8_append (σ : GS) (th : Nat) (a1 : Int32) (a2 : Int32) (a3 : Int32) (a4 : Int32) (a5 : Int32) : Option (GS × Int32) :=
  let σ1 := sI σ th 0 0
  if ((gI σ1 th 5) + 20) ≤ 600 then
   (
    (F_X8_bytesOf σ1 th a1).bind fun o2 =>
    (F_X8_bytesOf o2 th a2).bind fun o3 =>
    (F_X8_bytesOf o3 th a3).bind fun o4 =>
    (F_X8_bytesOf o4 th a4).bind fun o5 =>
    (F_X8_bytesOf o5 th a5).bind fun o6 =>
    some (o6, gI o6 th 5)
   )
  else
   (
    some (σ1, (-1))
   )

def L_X8_begins_78 (th : Nat) : Nat → GS → Int32 → Option (GS)
  | 0, _, _ => none
  | n + 1, σ, v1 =>
    if (4 : Int32) ≤ v1 then
     (
      let σ9 := sI σ th 26 0
      if inB 0 (lnG (rfG th 29)) then
        let σ11 := sI σ9 (rfG th 29) (0 : Int32).toNatClampNeg 0
        if inB 1 (lnG (rfG th 29)) then
          let σ13 := sI σ11 (rfG th 29) (1 : Int32).toNatClampNeg 0
          some σ13
        else none
      else none
     )
    else
     (
      if inB v1 (lnG (rfG th 21)) then
        if inB v1 (lnG (rfG th 2)) then
          let σ16 := sL σ (rfG th 2) v1.toNatClampNeg (gL σ (rfG th 21) v1.toNatClampNeg)
          (F_X8_sets σ16 th v1 3 (-1)).bind fun o17 =>
          if inB v1 (lnG (rfG th 19)) then
            (F_X8_sets o17 th v1 12 (gI o17 (rfG th 19) v1.toNatClampNeg)).bind fun o19 =>
            if inB v1 (lnG (rfG th 20)) then
              (F_X8_sets o19 th v1 13 (gI o19 (rfG th 20) v1.toNatClampNeg)).bind fun o21 =>
              (L_X8_begins_78 th n) o21 (v1 + 1)
            else none
          else none
        else none
      else none
     )
def L_X8_begins_50 (th : Nat) : Nat → GS → Int32 → Option (GS)
  | 0, _, _ => none
  | n + 1, σ, v1 =>
    if (8 : Int32) ≤ v1 then
     (
      L_X8_begins_78 th NF σ 0
     )
    else
     (
      if inB v1 (lnG (rfG th 18)) then
        if inB (1 + v1) (lnG (rfG th 3)) then
          let σ8 := sI σ (rfG th 3) (1 + v1).toNatClampNeg (gI σ (rfG th 18) v1.toNatClampNeg)
          (L_X8_begins_50 th n) σ8 (v1 + 1)
        else none
      else none
     )
def L_X8_begins_28 (th : Nat) : Nat → GS → Int32 → Option (GS)
  | 0, _, _ => none
  | n + 1, σ, v1 =>
    if (437 : Int32) ≤ v1 then
     (
      L_X8_begins_50 th NF σ 0
     )
    else
     (
      if inB v1 (lnG (rfG th 3)) then
        let σ5 := sI σ (rfG th 3) v1.toNatClampNeg 0
        (L_X8_begins_28 th n) σ5 (v1 + 1)
      else none
     )
def L_X8_begins_2 (th : Nat) : Nat → GS → Int32 → Option (GS)
  | 0, _, _ => none
  | n + 1, σ, v1 =>
    if (47 : Int32) ≤ v1 then
     (
      L_X8_begins_28 th NF σ 0
     )
    else
     (
      if inB v1 (lnG (rfG th 17)) then
        if inB v1 (lnG (rfG th 1)) then
          let σ3 := sI σ (rfG th 1) v1.toNatClampNeg (gI σ (rfG th 17) v1.toNatClampNeg)
          (L_X8_begins_2 th n) σ3 (v1 + 1)
        else none
      else none
     )
def F_X8_begins (σ : GS) (th : Nat) : Option (GS) :=
  L_X8_begins_2 th NF σ 0

def L_X8_foresees_13 (th : Nat) : Nat → GS → Option (GS)
  | 0, _ => none
  | n + 1, σ =>
    if inB 0 (lnG (rfG th 3)) then
      if (2000 : Int32) ≤ (gI σ (rfG th 3) (0 : Int32).toNatClampNeg) then
       (
        some σ
       )
      else
       (
        (F_X8_isOver σ th).bind fun o5 =>
        if o5 = 0 then
         (
          (F_X8_passes σ th).bind fun o6 =>
          (L_X8_foresees_13 th n) o6
         )
        else
         (
          some σ
         )
       )
    else none
def F_X8_foresees (σ : GS) (th : Nat) : Option (GS) :=
  (F_X8_copies σ (rfG th 3) 0 (rfG th 25) 0).bind fun o3 =>
  L_X8_foresees_13 th NF o3

def F_X8_comesBack (σ : GS) (th : Nat) : Option (GS) :=
  (F_X8_copies σ (rfG th 25) 0 (rfG th 3) 0).bind fun o3 =>
  some o3

def J_X8_isSteady_42 (th : Nat) (a1 : Int32) (σ : GS) : Option (GS × Int32) :=
  (F_X8_comesBack σ th).bind fun o8 =>
  let σ9 := sI o8 th 23 (-1)
  some (σ9, 0)
def F_X8_isSteady (σ : GS) (th : Nat) (a1 : Int32) : Option (GS × Int32) :=
  (F_X8_of σ th a1 6).bind fun o1 =>
  let σ2 := sI σ th 23 a1
  (F_X8_foresees σ2 th).bind fun o3 =>
  (F_X8_of o3 th a1 0).bind fun o4 =>
  if o4 = 3 then
   (
    (F_X8_of o3 th a1 6).bind fun o5 =>
    if o5 = o1 then
     (
      (F_X8_comesBack o3 th).bind fun o6 =>
      let σ7 := sI o6 th 23 (-1)
      some (σ7, 1)
     )
    else
     (
      J_X8_isSteady_42 th a1 o3
     )
   )
  else
   (
    J_X8_isSteady_42 th a1 o3
   )

def L_X8_steadyOf_25 (r19 : GS → Int32 → Option (GS × Int32)) (th : Nat) (a1 : Int32) : Nat → GS → Int32 → Int32 → Option (GS × Int32)
  | 0, _, _, _ => none
  | n + 1, σ, v2, v3 =>
    if (30 : Int32) ≤ v3 then
     (
      (F_X8_isSteady σ th a1).bind fun o3 =>
      if o3.2 = 0 then
       (
        r19 o3.1 (v2 + (-1))
       )
      else
       (
        some (o3.1, v2)
       )
     )
    else
     (
      if inB v3 (lnG (rfG th 24)) then
        let σ5 := sI σ (rfG th 24) v3.toNatClampNeg v2
        (L_X8_steadyOf_25 r19 th a1 n) σ5 v2 (v3 + 1)
      else none
     )
def L_X8_steadyOf_19 (th : Nat) (a1 : Int32) : Nat → GS → Int32 → Option (GS × Int32)
  | 0, _, _ => none
  | n + 1, σ, v2 =>
    if v2 < 0 then
     (
      some (σ, (-1))
     )
    else
     (
      L_X8_steadyOf_25 (L_X8_steadyOf_19 th a1 n) th a1 NF σ v2 0
     )
def F_X8_steadyOf (σ : GS) (th : Nat) (a1 : Int32) : Option (GS × Int32) :=
  (F_X8_hasNone σ th a1).bind fun o1 =>
  if o1 = 0 then
   (
    (F_X8_toldOf σ th a1 1).bind fun o2 =>
    L_X8_steadyOf_19 th a1 NF σ (o2 - 1)
   )
  else
   (
    some (σ, (-1))
   )

def L_X8_laysOracle_50 (r27 : GS → Int32 → Option (GS)) (th : Nat) (a1 : Int32) (a2 : Int32) : Nat → GS → Int32 → Int32 → Option (GS)
  | 0, _, _, _ => none
  | n + 1, σ, v3, v4 =>
    if v4 ≤ 0 then
     (
      r27 σ (v3 + 1)
     )
    else
     (
      (F_X8_isSteady σ th a1).bind fun o7 =>
      if o7.2 = 0 then
       (
        if inB v3 (lnG (rfG th 24)) then
          let σ9 := sI o7.1 (rfG th 24) v3.toNatClampNeg (v4 + (-1))
          (L_X8_laysOracle_50 r27 th a1 a2 n) σ9 v3 (v4 + (-1))
        else none
       )
      else
       (
        r27 o7.1 (v3 + 1)
       )
     )
def L_X8_laysOracle_27 (th : Nat) (a1 : Int32) (a2 : Int32) : Nat → GS → Int32 → Option (GS)
  | 0, _, _ => none
  | n + 1, σ, v3 =>
    if a2 < v3 then
     (
      some σ
     )
    else
     (
      (F_X8_toldOf σ th a1 1).bind fun o4 =>
      if inB v3 (lnG (rfG th 24)) then
        let σ6 := sI σ (rfG th 24) v3.toNatClampNeg (o4 - 1)
        L_X8_laysOracle_50 (L_X8_laysOracle_27 th a1 a2 n) th a1 a2 NF σ6 v3 (o4 - 1)
      else none
     )
def L_X8_laysOracle_2 (th : Nat) (a1 : Int32) (a2 : Int32) : Nat → GS → Int32 → Option (GS)
  | 0, _, _ => none
  | n + 1, σ, v3 =>
    if (30 : Int32) ≤ v3 then
     (
      (F_X8_askedMany σ th a1).bind fun o1 =>
      L_X8_laysOracle_27 th a1 a2 NF σ o1
     )
    else
     (
      if inB v3 (lnG (rfG th 24)) then
        let σ3 := sI σ (rfG th 24) v3.toNatClampNeg 0
        (L_X8_laysOracle_2 th a1 a2 n) σ3 (v3 + 1)
      else none
     )
def F_X8_laysOracle (σ : GS) (th : Nat) (a1 : Int32) (a2 : Int32) : Option (GS) :=
  L_X8_laysOracle_2 th a1 a2 NF σ 0

def J_X8_qualitiesAhead_10 (th : Nat) (a1 : Int32) (a2 : Int32) (σ : GS) (u0 : Int32) : Option (GS × Int32) :=
  let σ1 := sI σ th 23 u0
  (F_X8_foresees σ1 th).bind fun o2 =>
  (F_X8_of o2 th a1 9).bind fun o3 =>
  (F_X8_comesBack o2 th).bind fun o4 =>
  let σ5 := sI o4 th 23 (-1)
  some (σ5, o3)
def F_X8_qualitiesAhead (σ : GS) (th : Nat) (a1 : Int32) (a2 : Int32) : Option (GS × Int32) :=
  if a2 = 0 then
   (
    J_X8_qualitiesAhead_10 th a1 a2 σ (-1)
   )
  else
   (
    J_X8_qualitiesAhead_10 th a1 a2 σ a1
   )

def F_X8_share (σ : GS) (th : Nat) (a1 : Int32) : Option (GS × Int32) :=
  (F_X8_noPlayer σ th a1).bind fun o1 =>
  if o1.2 = 0 then
   (
    (F_X8_of o1.1 th a1 10).bind fun o2 =>
    (F_X8_copies o1.1 (rfG th 3) 0 (rfG th 25) 0).bind fun o5 =>
    (F_X8_passes o5 th).bind fun o6 =>
    (F_X8_of o6 th a1 10).bind fun o7 =>
    (F_X8_comesBack o6 th).bind fun o8 =>
    some (o8, o7 - o2)
   )
  else
   (
    some (o1.1, 0)
   )

def J_X8_forecast_23 (th : Nat) (a1 : Int32) (a2 : Int32) (σ : GS) (u0 : Int32) : Option (GS × Int32) :=
  (F_X8_throwsIf σ th u0 2).bind fun o3 =>
  if o3.2 = 0 then
   (
    (F_X8_foresees o3.1 th).bind fun o4 =>
    if (4 : Int32) ≤ a2 then
     (
      if a2 = 4 then
       (
        (F_X8_of o4 th a1 2).bind fun o7 =>
        (F_X8_comesBack o4 th).bind fun o8 =>
        some (o8, o7)
       )
      else
       (
        if inB 0 (lnG (rfG th 3)) then
          (F_X8_comesBack o4 th).bind fun o6 =>
          some (o6, gI o4 (rfG th 3) (0 : Int32).toNatClampNeg)
        else none
       )
     )
    else
     (
      (F_X8_of o4 th a1 (6 + a2)).bind fun o9 =>
      (F_X8_comesBack o4 th).bind fun o10 =>
      some (o10, o9)
     )
   )
  else
   (
    some (o3.1, 0)
   )
def F_X8_forecast (σ : GS) (th : Nat) (a1 : Int32) (a2 : Int32) : Option (GS × Int32) :=
  (F_X8_noPlayer σ th a1).bind fun o1 =>
  if o1.2 = 0 then
   (
    (F_X8_within o1.1 a2 0 5).bind fun o2 =>
    if o2 = 0 then
     (
      J_X8_forecast_23 th a1 a2 o1.1 1
     )
    else
     (
      J_X8_forecast_23 th a1 a2 o1.1 0
     )
   )
  else
   (
    some (o1.1, 0)
   )

def F_X8_steadyQuality (σ : GS) (th : Nat) (a1 : Int32) : Option (GS × Int32) :=
  (F_X8_noPlayer σ th a1).bind fun o1 =>
  if o1.2 = 0 then
   (
    (F_X8_steadyOf o1.1 th a1).bind fun o2 =>
    some (o2.1, o2.2)
   )
  else
   (
    some (o1.1, 0)
   )

def F_X8_oracle (σ : GS) (th : Nat) (a1 : Int32) (a2 : Int32) : Option (GS × Int32) :=
  (F_X8_noPlayer σ th a1).bind fun o1 =>
  if o1.2 = 0 then
   (
    (F_X8_hasNone o1.1 th a1).bind fun o2 =>
    if o2 = 0 then
     (
      (F_X8_toldOf o1.1 th a1 0).bind fun o3 =>
      (F_X8_askedMany o1.1 th a1).bind fun o4 =>
      (F_X8_within o1.1 a2 0 ((o3 - 1) - o4)).bind fun o5 =>
      if o5 = 0 then
       (
        some (o1.1, (-1))
       )
      else
       (
        (F_X8_askedMany o1.1 th a1).bind fun o6 =>
        (F_X8_laysOracle o1.1 th a1 (o6 + a2)).bind fun o7 =>
        if inB (o6 + a2) (lnG (rfG th 24)) then
          some (o7, gI o7 (rfG th 24) (o6 + a2).toNatClampNeg)
        else none
       )
     )
    else
     (
      some (o1.1, (-1))
     )
   )
  else
   (
    some (o1.1, 0)
   )

def F_X8_regret (σ : GS) (th : Nat) (a1 : Int32) : Option (GS × Int32) :=
  (F_X8_noPlayer σ th a1).bind fun o1 =>
  if o1.2 = 0 then
   (
    (F_X8_hasNone o1.1 th a1).bind fun o2 =>
    if o2 = 0 then
     (
      (F_X8_toldOf o1.1 th a1 0).bind fun o3 =>
      (F_X8_laysOracle o1.1 th a1 (o3 - 1)).bind fun o4 =>
      (F_X8_qualitiesAhead o4 th a1 1).bind fun o5 =>
      (F_X8_qualitiesAhead o5.1 th a1 0).bind fun o6 =>
      some (o6.1, o5.2 - o6.2)
     )
    else
     (
      some (o1.1, 0)
     )
   )
  else
   (
    some (o1.1, 0)
   )

def J_X8_areSteady_58 (r8 : GS → Int32 → Int32 → Option (GS × Int32)) (th : Nat) (σ : GS) (v1 : Int32) (v2 : Int32) (u0 : Int32) : Option (GS × Int32) :=
  if v1 = 0 then
   (
    r8 σ 0 (v2 + 1)
   )
  else
   (
    if u0 = 0 then
     (
      (F_X8_of σ th v2 0).bind fun o7 =>
      if o7 = 4 then
       (
        r8 σ 1 (v2 + 1)
       )
      else
       (
        r8 σ 0 (v2 + 1)
       )
     )
    else
     (
      r8 σ 1 (v2 + 1)
     )
   )
def J_X8_areSteady_57 (r8 : GS → Int32 → Int32 → Option (GS × Int32)) (th : Nat) (σ : GS) (v1 : Int32) (v2 : Int32) : Option (GS × Int32) :=
  J_X8_areSteady_58 r8 th σ v1 v2 0
def L_X8_areSteady_8 (th : Nat) : Nat → GS → Int32 → Int32 → Option (GS × Int32)
  | 0, _, _, _ => none
  | n + 1, σ, v1, v2 =>
    if inB 4 (lnG (rfG th 1)) then
      if (gI σ (rfG th 1) (4 : Int32).toNatClampNeg) ≤ v2 then
       (
        (F_X8_comesBack σ th).bind fun o3 =>
        if v1 = 0 ∨ v1 = 1 then
          some (o3, v1)
        else none
       )
      else
       (
        (F_X8_of σ th v2 0).bind fun o4 =>
        if o4 = 3 then
         (
          (F_X8_of σ th v2 6).bind fun o5 =>
          if inB ((13 + (106 * v2)) + 6) (lnG (rfG th 25)) then
            if o5 = (gI σ (rfG th 25) ((13 + (106 * v2)) + 6).toNatClampNeg) then
             (
              J_X8_areSteady_58 (L_X8_areSteady_8 th n) th σ v1 v2 1
             )
            else
             (
              J_X8_areSteady_57 (L_X8_areSteady_8 th n) th σ v1 v2
             )
          else none
         )
        else
         (
          J_X8_areSteady_57 (L_X8_areSteady_8 th n) th σ v1 v2
         )
       )
    else none
def F_X8_areSteady (σ : GS) (th : Nat) : Option (GS × Int32) :=
  (F_X8_foresees σ th).bind fun o1 =>
  L_X8_areSteady_8 th NF o1 1 0

def L_X8_leastRate_9 (th : Nat) : Nat → GS → Int32 → Int32 → Option (GS × Int32)
  | 0, _, _, _ => none
  | n + 1, σ, v1, v2 =>
    if (9900 : Int32) < v2 then
     (
      let σ2 := sI σ th 22 (-1)
      some (σ2, v1)
     )
    else
     (
      if v1 = (-1) then
       (
        let σ4 := sI σ th 22 v2
        (F_X8_areSteady σ4 th).bind fun o5 =>
        if o5.2 = 0 then
         (
          (L_X8_leastRate_9 th n) o5.1 (-1) (v2 + 100)
         )
        else
         (
          (L_X8_leastRate_9 th n) o5.1 v2 (v2 + 100)
         )
       )
      else
       (
        let σ3 := sI σ th 22 (-1)
        some (σ3, v1)
       )
     )
def F_X8_leastRate (σ : GS) (th : Nat) : Option (GS × Int32) :=
  let σ1 := sI σ th 0 0
  L_X8_leastRate_9 th NF σ1 (-1) 0

def L_X8_run_64 (th : Nat) (a1 : Int32) : Nat → GS → Int32 → Option (GS × Int32)
  | 0, _, _ => none
  | n + 1, σ, v2 =>
    if a1 ≤ v2 then
     (
      if inB 0 (lnG (rfG th 3)) then
        some (σ, gI σ (rfG th 3) (0 : Int32).toNatClampNeg)
      else none
     )
    else
     (
      (F_X8_passes σ th).bind fun o8 =>
      (L_X8_run_64 th a1 n) o8 (v2 + 1)
     )
def J_X8_run_49 (th : Nat) (a1 : Int32) (σ : GS) (u0 : Int32) : Option (GS × Int32) :=
  (F_X8_throwsIf σ th u0 2).bind fun o5 =>
  if o5.2 = 0 then
   (
    (F_X8_keeps o5.1 th).bind fun o6 =>
    L_X8_run_64 th a1 NF o6 0
   )
  else
   (
    some (o5.1, 0)
   )
def J_X8_run_22 (th : Nat) (a1 : Int32) (σ : GS) (u0 : Int32) : Option (GS × Int32) :=
  (F_X8_throwsIf σ th u0 1).bind fun o3 =>
  if o3.2 = 0 then
   (
    if inB 0 (lnG (rfG th 3)) then
      if ((gI o3.1 (rfG th 3) (0 : Int32).toNatClampNeg) + a1) ≤ 2000 then
       (
        J_X8_run_49 th a1 o3.1 0
       )
      else
       (
        J_X8_run_49 th a1 o3.1 1
       )
    else none
   )
  else
   (
    some (o3.1, 0)
   )
def F_X8_run (σ : GS) (th : Nat) (a1 : Int32) : Option (GS × Int32) :=
  let σ1 := sI σ th 0 0
  (F_X8_within σ1 a1 1 200).bind fun o2 =>
  if o2 = 0 then
   (
    J_X8_run_22 th a1 σ1 1
   )
  else
   (
    J_X8_run_22 th a1 σ1 0
   )

def J_X8_setRule_23 (th : Nat) (a1 : Int32) (a2 : Int32) (σ : GS) (u0 : Int32) : Option (GS × Int32) :=
  (F_X8_throwsIf σ th u0 2).bind fun o3 =>
  if o3.2 = 0 then
   (
    (F_X8_keeps o3.1 th).bind fun o4 =>
    (F_X8_of o4 th a1 12).bind fun o5 =>
    (F_X8_sets o4 th a1 12 a2).bind fun o6 =>
    some (o6, o5)
   )
  else
   (
    some (o3.1, 0)
   )
def F_X8_setRule (σ : GS) (th : Nat) (a1 : Int32) (a2 : Int32) : Option (GS × Int32) :=
  (F_X8_noPlayer σ th a1).bind fun o1 =>
  if o1.2 = 0 then
   (
    (F_X8_within o1.1 a2 0 3).bind fun o2 =>
    if o2 = 0 then
     (
      J_X8_setRule_23 th a1 a2 o1.1 1
     )
    else
     (
      J_X8_setRule_23 th a1 a2 o1.1 0
     )
   )
  else
   (
    some (o1.1, 0)
   )

def J_X8_setWeight_24 (th : Nat) (a1 : Int32) (a2 : Int32) (σ : GS) (u0 : Int32) : Option (GS × Int32) :=
  (F_X8_throwsIf σ th u0 2).bind fun o3 =>
  if o3.2 = 0 then
   (
    (F_X8_keeps o3.1 th).bind fun o4 =>
    (F_X8_of o4 th a1 13).bind fun o5 =>
    (F_X8_sets o4 th a1 13 a2).bind fun o6 =>
    some (o6, o5)
   )
  else
   (
    some (o3.1, 0)
   )
def F_X8_setWeight (σ : GS) (th : Nat) (a1 : Int32) (a2 : Int32) : Option (GS × Int32) :=
  (F_X8_noPlayer σ th a1).bind fun o1 =>
  if o1.2 = 0 then
   (
    (F_X8_within o1.1 a2 1 9).bind fun o2 =>
    if o2 = 0 then
     (
      J_X8_setWeight_24 th a1 a2 o1.1 1
     )
    else
     (
      J_X8_setWeight_24 th a1 a2 o1.1 0
     )
   )
  else
   (
    some (o1.1, 0)
   )

def J_X8_setRate_36 (th : Nat) (a1 : Int32) (a2 : Int32) (σ : GS) (u0 : Int32) : Option (GS × Int32) :=
  (F_X8_throwsIf σ th u0 2).bind fun o5 =>
  if o5.2 = 0 then
   (
    (F_X8_keeps o5.1 th).bind fun o6 =>
    if inB (1 + a1) (lnG (rfG th 3)) then
      if inB (1 + a1) (lnG (rfG th 3)) then
        let σ9 := sI o6 (rfG th 3) (1 + a1).toNatClampNeg a2
        some (σ9, gI o6 (rfG th 3) (1 + a1).toNatClampNeg)
      else none
    else none
   )
  else
   (
    some (o5.1, 0)
   )
def F_X8_setRate (σ : GS) (th : Nat) (a1 : Int32) (a2 : Int32) : Option (GS × Int32) :=
  let σ1 := sI σ th 0 0
  if inB 5 (lnG (rfG th 1)) then
    (F_X8_no σ1 th a1 (gI σ1 (rfG th 1) (5 : Int32).toNatClampNeg)).bind fun o3 =>
    if o3.2 = 0 then
     (
      (F_X8_within o3.1 a2 0 9999).bind fun o4 =>
      if o4 = 0 then
       (
        J_X8_setRate_36 th a1 a2 o3.1 1
       )
      else
       (
        J_X8_setRate_36 th a1 a2 o3.1 0
       )
     )
    else
     (
      some (o3.1, 0)
     )
  else none

def J_X8_quit_24 (th : Nat) (a1 : Int32) (σ : GS) (u0 : Int32) : Option (GS × Int32) :=
  (F_X8_throwsIf σ th u0 2).bind fun o3 =>
  if o3.2 = 0 then
   (
    (F_X8_keeps o3.1 th).bind fun o4 =>
    (F_X8_sets o4 th a1 0 4).bind fun o5 =>
    (F_X8_of o5 th a1 3).bind fun o6 =>
    if o6 = (-1) then
     (
      some (o5, 0)
     )
    else
     (
      (F_X8_of o5 th a1 2).bind fun o7 =>
      (F_X8_of o5 th a1 3).bind fun o8 =>
      (F_X8_sizeAt o5 th a1 o7 o8).bind fun o9 =>
      (F_X8_of o5 th a1 4).bind fun o10 =>
      some (o5, o9 - o10)
     )
   )
  else
   (
    some (o3.1, 0)
   )
def F_X8_quit (σ : GS) (th : Nat) (a1 : Int32) : Option (GS × Int32) :=
  (F_X8_noPlayer σ th a1).bind fun o1 =>
  if o1.2 = 0 then
   (
    (F_X8_of o1.1 th a1 0).bind fun o2 =>
    if o2 < 3 then
     (
      J_X8_quit_24 th a1 o1.1 0
     )
    else
     (
      J_X8_quit_24 th a1 o1.1 1
     )
   )
  else
   (
    some (o1.1, 0)
   )

def J_X8_parse_172 (th : Nat) (a1 : Int32) (σ : GS) (v2 : Int32) : Option (GS × Int32) :=
  if v2 = 0 then
   (
    some (σ, gI σ th 12)
   )
  else
   (
    (F_X8_begins σ th).bind fun o20 =>
    some (o20, 0)
   )
def L_X8_parse_138 (th : Nat) (a1 : Int32) : Nat → GS → Int32 → Option (GS × Int32)
  | 0, _, _ => none
  | n + 1, σ, v2 =>
    if v2 = 0 then
     (
      J_X8_parse_172 th a1 σ v2
     )
    else
     (
      if (gI σ th 9) = 0 then
       (
        J_X8_parse_172 th a1 σ v2
       )
      else
       (
        (F_X8_statement σ th).bind fun o18 =>
        if o18.2 = 0 then
         (
          (L_X8_parse_138 th a1 n) o18.1 0
         )
        else
         (
          (F_X8_closes o18.1 th).bind fun o19 =>
          if o19.2 = 0 then
           (
            (L_X8_parse_138 th a1 n) o19.1 0
           )
          else
           (
            (L_X8_parse_138 th a1 n) o19.1 1
           )
         )
       )
     )
def J_X8_parse_23 (th : Nat) (a1 : Int32) (σ : GS) (u0 : Int32) : Option (GS × Int32) :=
  (F_X8_throwsIf σ th u0 1).bind fun o3 =>
  if o3.2 = 0 then
   (
    let σ4 := sI o3.1 th 6 a1
    let σ5 := sI σ4 th 5 0
    let σ6 := sI σ5 th 8 0
    let σ7 := sI σ6 th 12 0
    let σ8 := sI σ7 th 13 (-1)
    (F_X8_clearsRead σ8 th).bind fun o9 =>
    (F_X8_advance o9 th).bind fun o10 =>
    (F_X8_isWord o10 th 9).bind fun o11 =>
    (F_X8_starts o10 th 1 o11).bind fun o12 =>
    if o12.2 = 0 then
     (
      L_X8_parse_138 th a1 NF o12.1 0
     )
    else
     (
      (F_X8_lays o12.1 th 0 1 20).bind fun o13 =>
      if o13.2 = 0 then
       (
        L_X8_parse_138 th a1 NF o13.1 0
       )
      else
       (
        (F_X8_lays o13.1 th 1 1 60).bind fun o14 =>
        if o14.2 = 0 then
         (
          L_X8_parse_138 th a1 NF o14.1 0
         )
        else
         (
          (F_X8_lays o14.1 th 2 1 200).bind fun o15 =>
          if o15.2 = 0 then
           (
            L_X8_parse_138 th a1 NF o15.1 0
           )
          else
           (
            (F_X8_lays o15.1 th 3 10 100).bind fun o16 =>
            if o16.2 = 0 then
             (
              L_X8_parse_138 th a1 NF o16.1 0
             )
            else
             (
              (F_X8_closes o16.1 th).bind fun o17 =>
              if o17.2 = 0 then
               (
                L_X8_parse_138 th a1 NF o17.1 0
               )
              else
               (
                L_X8_parse_138 th a1 NF o17.1 1
               )
             )
           )
         )
       )
     )
   )
  else
   (
    some (o3.1, 0)
   )
def F_X8_parse (σ : GS) (th : Nat) (a1 : Int32) : Option (GS × Int32) :=
  let σ1 := sI σ th 0 0
  (F_X8_within σ1 a1 0 (gI σ1 th 5)).bind fun o2 =>
  if o2 = 0 then
   (
    J_X8_parse_23 th a1 σ1 1
   )
  else
   (
    J_X8_parse_23 th a1 σ1 0
   )

