def L_X8_rateAt_58 (th : Nat) (a1 : Int32) : Nat → GS → Int32 → Int32 → Option (Int32)
  | 0, _, _, _ => none
  | n + 1, σ, v2, v4 =>
    if (gI σ th 5) ≤ v4 then
     (
      some (-9)
     )
    else
     (
      if inB v4 (lnG (rfG th 9)) then
        if (gI σ (rfG th 9) v4.toNatClampNeg) ≤ v2 then
         (
          if inB v4 (lnG (rfG th 9)) then
            (L_X8_rateAt_58 th a1 n) σ (v2 - (gI σ (rfG th 9) v4.toNatClampNeg)) (v4 + 1)
          else none
         )
        else
         (
          if inB v4 (lnG (rfG th 10)) then
            some (gI σ (rfG th 10) v4.toNatClampNeg)
          else none
         )
      else none
     )
def L_X8_rateAt_19 (th : Nat) (a1 : Int32) : Nat → GS → Int32 → Int32 → Option (Int32)
  | 0, _, _, _ => none
  | n + 1, σ, v3, v4 =>
    if (gI σ th 5) ≤ v4 then
     (
      if v3 = 0 then
       (
        some 100
       )
      else
       (
        if ¬ v3 = 0 then
          L_X8_rateAt_58 th a1 NF σ (a1 - a1 / v3 * v3) 0
        else none
       )
     )
    else
     (
      if inB v4 (lnG (rfG th 9)) then
        (L_X8_rateAt_19 th a1 n) σ (v3 + (gI σ (rfG th 9) v4.toNatClampNeg)) (v4 + 1)
      else none
     )
def F_X8_rateAt (σ : GS) (th : Nat) (a1 : Int32) : Option (Int32) :=
  if (gI σ th 8) < 0 then
   (
    L_X8_rateAt_19 th a1 NF σ 0 0
   )
  else
   (
    some (gI σ th 8)
   )

def F_X8_sizeOf (σ : GS) (th : Nat) (a1 : Nat) (a2 : Int32) (a3 : Int32) : Option (Int32) :=
  if inB a3 (lnG (rfG a1 18)) then
    if (gI σ th 6) = 0 then
     (
      some (if 1 < (((gI σ (rfG a1 18) a3.toNatClampNeg) * 100) / 100) then (((gI σ (rfG a1 18) a3.toNatClampNeg) * 100) / 100) else 1)
     )
    else
     (
      if ¬ (gI σ th 6) = 0 then
        if inB (a2 - a2 / (gI σ th 6) * (gI σ th 6)) (lnG (rfG th 11)) then
          some (if 1 < (((gI σ (rfG a1 18) a3.toNatClampNeg) * (gI σ (rfG th 11) (a2 - a2 / (gI σ th 6) * (gI σ th 6)).toNatClampNeg)) / 100) then (((gI σ (rfG a1 18) a3.toNatClampNeg) * (gI σ (rfG th 11) (a2 - a2 / (gI σ th 6) * (gI σ th 6)).toNatClampNeg)) / 100) else 1)
        else none
      else none
     )
  else none

def F_X8_ones (σ : GS) (th : Nat) : Option (Int32) :=
  if inB 0 (lnG (rfG th 13)) then
    if inB 1 (lnG (rfG th 13)) then
      if inB 2 (lnG (rfG th 13)) then
        if inB 3 (lnG (rfG th 13)) then
          some ((((gI σ (rfG th 13) (0 : Int32).toNatClampNeg) + (gI σ (rfG th 13) (1 : Int32).toNatClampNeg)) + (gI σ (rfG th 13) (2 : Int32).toNatClampNeg)) + (gI σ (rfG th 13) (3 : Int32).toNatClampNeg))
        else none
      else none
    else none
  else none

def F_X8_wants (σ : GS) (th : Nat) (a1 : Int32) : Option (Int32) :=
  if inB a1 (lnG (rfG th 14)) then
    if (gI σ (rfG (rfG th 14) a1.toNatClampNeg) 5) = 4 then
     (
      some 0
     )
    else
     (
      if inB a1 (lnG (rfG th 14)) then
        if (gI σ (rfG (rfG th 14) a1.toNatClampNeg) 8) < 0 then
         (
          some 0
         )
        else
         (
          if inB a1 (lnG (rfG th 14)) then
            if (gI σ (rfG (rfG th 14) a1.toNatClampNeg) 9) ≤ 0 then
             (
              some 0
             )
            else
             (
              some 1
             )
          else none
         )
      else none
     )
  else none

def J_X8_comes_54 (th : Nat) (a1 : Nat) (σ : GS) (v2 : Int32) : Option (GS) :=
  let σ5 := sI σ a1 15 ((gI σ a1 15) + (gI σ a1 8))
  (F_X8_sizeOf σ5 th a1 v2 (gI σ5 a1 8)).bind fun o6 =>
  if ¬ (((gI σ5 th 7) + 1) - (gI σ5 a1 10)) = 0 then
    let σ7 := sI σ5 a1 17 (o6 / (((gI σ5 th 7) + 1) - (gI σ5 a1 10)))
    if inB v2 (lnG (rfG a1 20)) then
      let σ9 := sI σ7 (rfG a1 20) v2.toNatClampNeg (gI σ7 a1 8)
      if inB v2 (lnG (rfG a1 21)) then
        let σ11 := sI σ9 (rfG a1 21) v2.toNatClampNeg (gI σ9 a1 10)
        if inB v2 (lnG (rfG a1 22)) then
          let σ13 := sI σ11 (rfG a1 22) v2.toNatClampNeg (gI σ11 th 7)
          let σ14 := sI σ13 a1 8 (-1)
          if inB 3 (lnG (rfG th 12)) then
            if inB 3 (lnG (rfG th 12)) then
              let σ16 := sI σ14 (rfG th 12) (3 : Int32).toNatClampNeg ((gI σ14 (rfG th 12) (3 : Int32).toNatClampNeg) + 1)
              some σ16
            else none
          else none
        else none
      else none
    else none
  else none
def F_X8_comes (σ : GS) (th : Nat) (a1 : Nat) : Option (GS) :=
  let σ1 := sI σ a1 7 ((gI σ a1 7) + 1)
  let σ2 := sI σ1 a1 6 ((gI σ1 a1 6) + (gI σ1 th 0))
  if (gI σ a1 7) ≤ 0 then
   (
    J_X8_comes_54 th a1 σ2 (gI σ a1 7)
   )
  else
   (
    if inB ((gI σ a1 7) - 1) (lnG (rfG a1 20)) then
      if (gI σ2 (rfG a1 20) ((gI σ a1 7) - 1).toNatClampNeg) = (gI σ2 a1 8) then
       (
        J_X8_comes_54 th a1 σ2 (gI σ a1 7)
       )
      else
       (
        let σ4 := sI σ2 a1 14 ((gI σ2 a1 14) + 1)
        J_X8_comes_54 th a1 σ4 (gI σ a1 7)
       )
    else none
   )

def F_X9_be (σ : GS) (th : Nat) (a1 : Nat) : Option (GS) :=
  let σ1 := sI σ th 0 (gI σ a1 0)
  let σ2 := sI σ1 th 1 (gI σ1 a1 1)
  let σ3 := sI σ2 th 2 (gI σ2 a1 2)
  let σ4 := sI σ3 th 3 (gI σ3 a1 3)
  let σ5 := sI σ4 th 4 (gI σ4 a1 4)
  let σ6 := sI σ5 th 5 (gI σ5 a1 5)
  let σ7 := sI σ6 th 6 (gI σ6 a1 6)
  let σ8 := sI σ7 th 7 (gI σ7 a1 7)
  let σ9 := sI σ8 th 8 (gI σ8 a1 8)
  let σ10 := sI σ9 th 9 (gI σ9 a1 9)
  let σ11 := sI σ10 th 10 (gI σ10 a1 10)
  let σ12 := sI σ11 th 11 (gI σ11 a1 11)
  let σ13 := sI σ12 th 12 (gI σ12 a1 12)
  let σ14 := sI σ13 th 13 (gI σ13 a1 13)
  let σ15 := sI σ14 th 14 (gI σ14 a1 14)
  let σ16 := sI σ15 th 15 (gI σ15 a1 15)
  let σ17 := sI σ16 th 16 (gI σ16 a1 16)
  let σ18 := sI σ17 th 17 (gI σ17 a1 17)
  if 4 ≤ lnG (rfG a1 18) ∧ 4 ≤ lnG (rfG th 18) then
    let σ21 := cpR σ18 (rfG a1 18) (rfG th 18) 4
    if 30 ≤ lnG (rfG a1 19) ∧ 30 ≤ lnG (rfG th 19) then
      let σ24 := cpR σ21 (rfG a1 19) (rfG th 19) 30
      if 30 ≤ lnG (rfG a1 20) ∧ 30 ≤ lnG (rfG th 20) then
        let σ27 := cpR σ24 (rfG a1 20) (rfG th 20) 30
        if 30 ≤ lnG (rfG a1 21) ∧ 30 ≤ lnG (rfG th 21) then
          let σ30 := cpR σ27 (rfG a1 21) (rfG th 21) 30
          if 30 ≤ lnG (rfG a1 22) ∧ 30 ≤ lnG (rfG th 22) then
            let σ33 := cpR σ30 (rfG a1 22) (rfG th 22) 30
            some σ33
          else none
        else none
      else none
    else none
  else none

def F_X9_next (σ : GS) (th : Nat) : Option (Int32) :=
  if (0 : Int32) ≤ (gI σ th 8) then
   (
    some ((gI σ th 7) + 1)
   )
  else
   (
    some (gI σ th 7)
   )

def F_X9_hasAll (σ : GS) (th : Nat) : Option (Int32) :=
  if (gI σ th 7) = (gI σ th 1) then
   (
    some 1
   )
  else
   (
    some 0
   )

def F_X9_hasNone (σ : GS) (th : Nat) : Option (Int32) :=
  if (gI σ th 5) = 4 then
   (
    some 1
   )
  else
   (
    (F_X9_next σ th).bind fun o1 =>
    if o1 = (gI σ th 1) then
     (
      some 1
     )
    else
     (
      some 0
     )
   )

def F_L_draw (σ : GS) (a1 : Nat) (a2 : Int32) : Option (GS × Int32) :=
  if inB 0 (lnG a1) then
    if inB 0 (lnG a1) then
      let σ1 := sI σ a1 (0 : Int32).toNatClampNeg (((gI σ a1 (0 : Int32).toNatClampNeg) * 1664525) + 1013904223)
      if inB 0 (lnG a1) then
        if ¬ a2 = 0 then
          some (σ1, (((gI σ1 a1 (0 : Int32).toNatClampNeg).toUInt32 >>> ((8 : Int32).toUInt32 &&& Int32.toUInt32 31)).toInt32) - (((gI σ1 a1 (0 : Int32).toNatClampNeg).toUInt32 >>> ((8 : Int32).toUInt32 &&& Int32.toUInt32 31)).toInt32) / a2 * a2)
        else none
      else none
    else none
  else none

def L_X8_be_132 (th : Nat) (a1 : Nat) : Nat → GS → Int32 → Option (GS × Nat)
  | 0, _, _ => none
  | n + 1, σ, v2 =>
    if (4 : Int32) ≤ v2 then
     (
      some (σ, th)
     )
    else
     (
      if inB v2 (lnG (rfG th 14)) then
        if inB v2 (lnG (rfG a1 14)) then
          (F_X9_be σ (rfG (rfG th 14) v2.toNatClampNeg) (rfG (rfG a1 14) v2.toNatClampNeg)).bind fun o26 =>
          (L_X8_be_132 th a1 n) o26 (v2 + 1)
        else none
      else none
     )
def F_X8_be (σ : GS) (th : Nat) (a1 : Nat) : Option (GS × Nat) :=
  let σ1 := sI σ th 0 (gI σ a1 0)
  let σ2 := sI σ1 th 1 (gI σ1 a1 1)
  let σ3 := sI σ2 th 2 (gI σ2 a1 2)
  let σ4 := sI σ3 th 3 (gI σ3 a1 3)
  let σ5 := sI σ4 th 4 (gI σ4 a1 4)
  let σ6 := sI σ5 th 5 (gI σ5 a1 5)
  let σ7 := sI σ6 th 6 (gI σ6 a1 6)
  let σ8 := sI σ7 th 7 (gI σ7 a1 7)
  let σ9 := sI σ8 th 8 (gI σ8 a1 8)
  if 8 ≤ lnG (rfG a1 9) ∧ 8 ≤ lnG (rfG th 9) then
    let σ12 := cpR σ9 (rfG a1 9) (rfG th 9) 8
    if 8 ≤ lnG (rfG a1 10) ∧ 8 ≤ lnG (rfG th 10) then
      let σ15 := cpR σ12 (rfG a1 10) (rfG th 10) 8
      if 4 ≤ lnG (rfG a1 11) ∧ 4 ≤ lnG (rfG th 11) then
        let σ18 := cpR σ15 (rfG a1 11) (rfG th 11) 4
        if 4 ≤ lnG (rfG a1 12) ∧ 4 ≤ lnG (rfG th 12) then
          let σ21 := cpR σ18 (rfG a1 12) (rfG th 12) 4
          L_X8_be_132 th a1 NF σ21 0
        else none
      else none
    else none
  else none

def J_X8_chooses_71 (th : Nat) (a1 : Nat) (σ : GS) (v2 : Int32) (v3 : Int32) : Option (Int32) :=
  if (gI σ a1 0) = 0 then
   (
    some 0
   )
  else
   (
    if (gI σ a1 0) = 1 then
     (
      some v2
     )
    else
     (
      if (gI σ a1 0) = 2 then
       (
        some v3
       )
      else
       (
        some (if v3 < v2 then v3 else v2)
       )
     )
   )
def L_X8_chooses_31 (th : Nat) (a1 : Nat) : Nat → GS → Int32 → Int32 → Option (Int32)
  | 0, _, _, _ => none
  | n + 1, σ, v2, v3 =>
    if v3 ≤ 0 then
     (
      J_X8_chooses_71 th a1 σ v2 v3
     )
    else
     (
      (F_X9_next σ a1).bind fun o1 =>
      (F_X8_sizeOf σ th a1 o1 v3).bind fun o2 =>
      if (o2 * 100) ≤ (((gI σ a1 17) * (gI σ th 0)) * (gI σ th 3)) then
       (
        J_X8_chooses_71 th a1 σ v2 v3
       )
      else
       (
        (L_X8_chooses_31 th a1 n) σ v2 (v3 + (-1))
       )
     )
def F_X8_chooses (σ : GS) (th : Nat) (a1 : Nat) : Option (Int32) :=
  if ¬ (gI σ th 2) = 0 then
    L_X8_chooses_31 th a1 NF σ (if (((gI σ a1 6) * (gI σ a1 3)) / (gI σ th 2)) < ((gI σ a1 3) - 1) then (((gI σ a1 6) * (gI σ a1 3)) / (gI σ th 2)) else ((gI σ a1 3) - 1)) ((gI σ a1 3) - 1)
  else none

def J_X8_plays_119 (th : Nat) (a1 : Nat) (σ : GS) : Option (GS) :=
  (F_X9_hasAll σ a1).bind fun o11 =>
  if o11 = 0 then
   (
    some σ
   )
  else
   (
    if (gI σ a1 6) = 0 then
     (
      let σ12 := sI σ a1 5 3
      some σ12
     )
    else
     (
      some σ
     )
   )
def J_X8_plays_91 (th : Nat) (a1 : Nat) (σ : GS) : Option (GS) :=
  if (gI σ a1 5) = 2 then
   (
    let σ8 := sI σ a1 12 ((gI σ a1 12) + 1)
    if inB 2 (lnG (rfG th 12)) then
      if inB 2 (lnG (rfG th 12)) then
        let σ10 := sI σ8 (rfG th 12) (2 : Int32).toNatClampNeg ((gI σ8 (rfG th 12) (2 : Int32).toNatClampNeg) + 1)
        J_X8_plays_119 th a1 σ10
      else none
    else none
   )
  else
   (
    J_X8_plays_119 th a1 σ
   )
def J_X8_plays_31 (th : Nat) (a1 : Nat) (σ : GS) : Option (GS) :=
  if (gI σ a1 5) = 1 then
   (
    if (gI σ a1 6) ≤ 0 then
     (
      (F_X9_hasAll σ a1).bind fun o2 =>
      if o2 = 0 then
       (
        let σ3 := sI σ a1 5 2
        let σ4 := sI σ3 a1 13 ((gI σ3 a1 13) + 1)
        J_X8_plays_91 th a1 σ4
       )
      else
       (
        J_X8_plays_91 th a1 σ
       )
     )
    else
     (
      let σ5 := sI σ a1 6 ((gI σ a1 6) - 1)
      let σ6 := sI σ5 a1 11 ((gI σ5 a1 11) + 1)
      J_X8_plays_91 th a1 σ6
     )
   )
  else
   (
    J_X8_plays_91 th a1 σ
   )
def J_X8_plays_26 (th : Nat) (a1 : Nat) (σ : GS) : Option (GS) :=
  let σ7 := sI σ a1 5 1
  J_X8_plays_31 th a1 σ7
def F_X8_plays (σ : GS) (th : Nat) (a1 : Nat) : Option (GS) :=
  if (gI σ a1 5) = 1 then
   (
    J_X8_plays_31 th a1 σ
   )
  else
   (
    if (gI σ th 1) ≤ (gI σ a1 6) then
     (
      J_X8_plays_26 th a1 σ
     )
    else
     (
      (F_X9_hasAll σ a1).bind fun o1 =>
      if o1 = 0 then
       (
        J_X8_plays_31 th a1 σ
       )
      else
       (
        J_X8_plays_26 th a1 σ
       )
     )
   )

def J_X8_tick_105 (r2 : GS → Int32 → Option (GS)) (th : Nat) (σ : GS) (v1 : Int32) (v2 : Nat) (u0 : Int32) : Option (GS) :=
  let σ13 := sI σ v2 8 u0
  (F_X8_sizeOf σ13 th v2 (gI σ13 v2 7) u0).bind fun o14 =>
  let σ15 := sI σ13 v2 9 o14
  let σ16 := sI σ15 v2 10 (gI σ15 th 7)
  r2 σ16 (v1 + 1)
def J_X8_tick_76 (r2 : GS → Int32 → Option (GS)) (th : Nat) (σ : GS) (v1 : Int32) (v2 : Nat) : Option (GS) :=
  if inB (gI σ v2 7) (lnG (rfG v2 19)) then
    if (gI σ (rfG v2 19) (gI σ v2 7).toNatClampNeg) < 0 then
     (
      (F_X8_chooses σ th v2).bind fun o6 =>
      J_X8_tick_105 r2 th σ v1 v2 o6
     )
    else
     (
      if inB (gI σ v2 7) (lnG (rfG v2 19)) then
        J_X8_tick_105 r2 th σ v1 v2 (gI σ (rfG v2 19) (gI σ v2 7).toNatClampNeg)
      else none
     )
  else none
def J_X8_tick_275 (r150 : GS → Int32 → Int32 → Option (GS)) (r219 : GS → Int32 → Int32 → Int32 → Int32 → Int32 → Int32 → Option (GS)) (th : Nat) (σ : GS) (v1 : Int32) (v2 : Int32) (v3 : Int32) (v4 : Int32) (v5 : Int32) (v6 : Int32) (u0 : Int32) (u1 : Int32) : Option (GS) :=
  if inB u1 (lnG (rfG th 13)) then
    let σ44 := sI σ (rfG th 13) u1.toNatClampNeg u0
    if inB v6 (lnG (rfG th 13)) then
      r219 σ44 v1 v2 v3 v4 (v5 + (gI σ44 (rfG th 13) v6.toNatClampNeg)) (v6 + 1)
    else none
  else none
def L_X8_tick_350 (r150 : GS → Int32 → Int32 → Option (GS)) (th : Nat) : Nat → GS → Int32 → Int32 → Int32 → Option (GS)
  | 0, _, _, _, _ => none
  | n + 1, σ, v1, v2, v6 =>
    if (gI σ th 4) ≤ v6 then
     (
      r150 σ v1 v2
     )
    else
     (
      if inB v6 (lnG (rfG th 14)) then
        if inB v6 (lnG (rfG th 13)) then
          let σ49 := sI σ (rfG (rfG th 14) v6.toNatClampNeg) 9 ((gI σ (rfG (rfG th 14) v6.toNatClampNeg) 9) - (gI σ (rfG th 13) v6.toNatClampNeg))
          if inB v6 (lnG (rfG th 14)) then
            if inB v6 (lnG (rfG th 13)) then
              let σ53 := sI σ49 (rfG (rfG th 14) v6.toNatClampNeg) 16 ((gI σ49 (rfG (rfG th 14) v6.toNatClampNeg) 16) + (gI σ49 (rfG th 13) v6.toNatClampNeg))
              if inB v6 (lnG (rfG th 13)) then
                if inB 0 (lnG (rfG th 12)) then
                  if inB v6 (lnG (rfG th 13)) then
                    if inB 0 (lnG (rfG th 12)) then
                      let σ57 := sI σ53 (rfG th 12) (0 : Int32).toNatClampNeg ((gI σ53 (rfG th 12) (0 : Int32).toNatClampNeg) + (gI σ53 (rfG th 13) v6.toNatClampNeg))
                      (L_X8_tick_350 r150 th n) σ57 (v1 - (gI σ53 (rfG th 13) v6.toNatClampNeg)) v2 (v6 + 1)
                    else none
                  else none
                else none
              else none
            else none
          else none
        else none
      else none
     )
def L_X8_tick_297 (r150 : GS → Int32 → Int32 → Option (GS)) (th : Nat) : Nat → GS → Int32 → Int32 → Int32 → Int32 → Option (GS)
  | 0, _, _, _, _, _ => none
  | n + 1, σ, v1, v2, v5, v6 =>
    if (gI σ th 4) ≤ v6 then
     (
      L_X8_tick_350 r150 th NF σ v1 v2 0
     )
    else
     (
      if (1 : Int32) ≤ v5 then
       (
        L_X8_tick_350 r150 th NF σ v1 v2 0
       )
      else
       (
        if v2 = 0 then
         (
          L_X8_tick_350 r150 th NF σ v1 v2 0
         )
        else
         (
          (F_X8_wants σ th v6).bind fun o40 =>
          if o40 = 0 then
           (
            (L_X8_tick_297 r150 th n) σ v1 v2 v5 (v6 + 1)
           )
          else
           (
            (F_X8_ones σ th).bind fun o41 =>
            if v1 ≤ o41 then
             (
              (L_X8_tick_297 r150 th n) σ v1 v2 v5 (v6 + 1)
             )
            else
             (
              if inB v6 (lnG (rfG th 13)) then
                let σ43 := sI σ (rfG th 13) v6.toNatClampNeg 1
                (L_X8_tick_297 r150 th n) σ43 v1 v2 v5 (v6 + 1)
              else none
             )
           )
         )
       )
     )
def L_X8_tick_219 (r150 : GS → Int32 → Int32 → Option (GS)) (th : Nat) : Nat → GS → Int32 → Int32 → Int32 → Int32 → Int32 → Int32 → Option (GS)
  | 0, _, _, _, _, _, _, _ => none
  | n + 1, σ, v1, v2, v3, v4, v5, v6 =>
    if (gI σ th 4) ≤ v6 then
     (
      L_X8_tick_297 r150 th NF σ v1 v2 v5 0
     )
    else
     (
      (F_X8_wants σ th v6).bind fun o27 =>
      if o27 = 0 then
       (
        J_X8_tick_275 r150 (L_X8_tick_219 r150 th n) th σ v1 v2 v3 v4 v5 v6 0 v6
       )
      else
       (
        if inB v6 (lnG (rfG th 14)) then
          if inB v6 (lnG (rfG th 14)) then
            if ¬ v3 = 0 then
              J_X8_tick_275 r150 (L_X8_tick_219 r150 th n) th σ v1 v2 v3 v4 v5 v6 (if ((v4 * (gI σ (rfG (rfG th 14) v6.toNatClampNeg) 2)) / v3) < (gI σ (rfG (rfG th 14) v6.toNatClampNeg) 9) then ((v4 * (gI σ (rfG (rfG th 14) v6.toNatClampNeg) 2)) / v3) else (gI σ (rfG (rfG th 14) v6.toNatClampNeg) 9)) v6
            else none
          else none
        else none
       )
     )
def L_X8_tick_166 (r150 : GS → Int32 → Int32 → Option (GS)) (th : Nat) : Nat → GS → Int32 → Int32 → Int32 → Int32 → Option (GS)
  | 0, _, _, _, _, _ => none
  | n + 1, σ, v1, v3, v4, v5 =>
    if (gI σ th 4) ≤ v5 then
     (
      if v3 ≤ 0 then
       (
        L_X8_tick_219 r150 th NF σ v1 0 v3 v4 0 0
       )
      else
       (
        L_X8_tick_219 r150 th NF σ v1 1 v3 v4 0 0
       )
     )
    else
     (
      (F_X8_wants σ th v5).bind fun o10 =>
      if o10 = 0 then
       (
        (L_X8_tick_166 r150 th n) σ v1 v3 v4 (v5 + 1)
       )
      else
       (
        if inB v5 (lnG (rfG th 14)) then
          (L_X8_tick_166 r150 th n) σ v1 (v3 + (gI σ (rfG (rfG th 14) v5.toNatClampNeg) 2)) v4 (v5 + 1)
        else none
       )
     )
def L_X8_tick_513 (th : Nat) : Nat → GS → Int32 → Option (GS)
  | 0, _, _ => none
  | n + 1, σ, v3 =>
    if (gI σ th 4) ≤ v3 then
     (
      let σ32 := sI σ th 7 ((gI σ th 7) + 1)
      some σ32
     )
    else
     (
      if inB v3 (lnG (rfG th 14)) then
        if (gI σ th 7) < (gI σ (rfG (rfG th 14) v3.toNatClampNeg) 4) then
         (
          (L_X8_tick_513 th n) σ (v3 + 1)
         )
        else
         (
          if inB v3 (lnG (rfG th 14)) then
            if (3 : Int32) ≤ (gI σ (rfG (rfG th 14) v3.toNatClampNeg) 5) then
             (
              (L_X8_tick_513 th n) σ (v3 + 1)
             )
            else
             (
              if inB v3 (lnG (rfG th 14)) then
                (F_X8_plays σ th (rfG (rfG th 14) v3.toNatClampNeg)).bind fun o39 =>
                (L_X8_tick_513 th n) o39 (v3 + 1)
              else none
             )
          else none
         )
      else none
     )
def L_X8_tick_450 (th : Nat) : Nat → GS → Int32 → Option (GS)
  | 0, _, _ => none
  | n + 1, σ, v3 =>
    if (gI σ th 4) ≤ v3 then
     (
      L_X8_tick_513 th NF σ 0
     )
    else
     (
      if inB v3 (lnG (rfG th 14)) then
        if (gI σ (rfG (rfG th 14) v3.toNatClampNeg) 5) = 4 then
         (
          (L_X8_tick_450 th n) σ (v3 + 1)
         )
        else
         (
          if inB v3 (lnG (rfG th 14)) then
            if (gI σ (rfG (rfG th 14) v3.toNatClampNeg) 8) < 0 then
             (
              (L_X8_tick_450 th n) σ (v3 + 1)
             )
            else
             (
              if inB v3 (lnG (rfG th 14)) then
                if (gI σ (rfG (rfG th 14) v3.toNatClampNeg) 9) = 0 then
                 (
                  if inB v3 (lnG (rfG th 14)) then
                    (F_X8_comes σ th (rfG (rfG th 14) v3.toNatClampNeg)).bind fun o25 =>
                    (L_X8_tick_450 th n) o25 (v3 + 1)
                  else none
                 )
                else
                 (
                  (L_X8_tick_450 th n) σ (v3 + 1)
                 )
              else none
             )
          else none
         )
      else none
     )
def J_X8_tick_438 (th : Nat) (σ : GS) (v1 : Int32) : Option (GS) :=
  if inB 1 (lnG (rfG th 12)) then
    if inB 1 (lnG (rfG th 12)) then
      let σ9 := sI σ (rfG th 12) (1 : Int32).toNatClampNeg ((gI σ (rfG th 12) (1 : Int32).toNatClampNeg) + v1)
      L_X8_tick_450 th NF σ9 0
    else none
  else none
def L_X8_tick_150 (th : Nat) : Nat → GS → Int32 → Int32 → Option (GS)
  | 0, _, _, _ => none
  | n + 1, σ, v1, v2 =>
    if v1 ≤ 0 then
     (
      J_X8_tick_438 th σ v1
     )
    else
     (
      if v2 = 0 then
       (
        J_X8_tick_438 th σ v1
       )
      else
       (
        L_X8_tick_166 (L_X8_tick_150 th n) th NF σ v1 0 v1 0
       )
     )
def L_X8_tick_2 (th : Nat) : Nat → GS → Int32 → Option (GS)
  | 0, _, _ => none
  | n + 1, σ, v1 =>
    if (gI σ th 4) ≤ v1 then
     (
      (F_X8_rateAt σ th (gI σ th 7)).bind fun o1 =>
      L_X8_tick_150 th NF σ o1 1
     )
    else
     (
      if inB v1 (lnG (rfG th 14)) then
        if (2 : Int32) < (gI σ (rfG (rfG th 14) v1.toNatClampNeg) 5) then
         (
          (L_X8_tick_2 th n) σ (v1 + 1)
         )
        else
         (
          if (gI σ th 7) < (gI σ (rfG (rfG th 14) v1.toNatClampNeg) 4) then
           (
            (L_X8_tick_2 th n) σ (v1 + 1)
           )
          else
           (
            if (0 : Int32) ≤ (gI σ (rfG (rfG th 14) v1.toNatClampNeg) 8) then
             (
              (L_X8_tick_2 th n) σ (v1 + 1)
             )
            else
             (
              (F_X9_hasAll σ (rfG (rfG th 14) v1.toNatClampNeg)).bind fun o4 =>
              if o4 = 0 then
               (
                if (gI σ (rfG (rfG th 14) v1.toNatClampNeg) 6) ≤ 0 then
                 (
                  J_X8_tick_76 (L_X8_tick_2 th n) th σ v1 (rfG (rfG th 14) v1.toNatClampNeg)
                 )
                else
                 (
                  if ((gI σ (rfG (rfG th 14) v1.toNatClampNeg) 6) + (gI σ th 0)) ≤ (gI σ th 2) then
                   (
                    J_X8_tick_76 (L_X8_tick_2 th n) th σ v1 (rfG (rfG th 14) v1.toNatClampNeg)
                   )
                  else
                   (
                    (L_X8_tick_2 th n) σ (v1 + 1)
                   )
                 )
               )
              else
               (
                (L_X8_tick_2 th n) σ (v1 + 1)
               )
             )
           )
         )
      else none
     )
def F_X8_tick (σ : GS) (th : Nat) : Option (GS) :=
  L_X8_tick_2 th NF σ 0

def L_X8_goesOn_20 (r2 : GS → Int32 → Option (GS × Nat)) (th : Nat) : Nat → GS → Int32 → Int32 → Option (GS × Nat)
  | 0, _, _, _ => none
  | n + 1, σ, v1, v2 =>
    if (gI σ th 4) ≤ v2 then
     (
      if v1 = 0 then
       (
        (F_X8_tick σ th).bind fun o1 =>
        r2 o1 v1
       )
      else
       (
        r2 σ v1
       )
     )
    else
     (
      if v1 = 0 then
       (
        (L_X8_goesOn_20 r2 th n) σ 0 (v2 + 1)
       )
      else
       (
        if inB v2 (lnG (rfG th 14)) then
          if (gI σ (rfG (rfG th 14) v2.toNatClampNeg) 5) ≤ 2 then
           (
            (L_X8_goesOn_20 r2 th n) σ 0 (v2 + 1)
           )
          else
           (
            (L_X8_goesOn_20 r2 th n) σ 1 (v2 + 1)
           )
        else none
       )
     )
def L_X8_goesOn_2 (th : Nat) : Nat → GS → Int32 → Option (GS × Nat)
  | 0, _, _ => none
  | n + 1, σ, v1 =>
    if v1 = 0 then
     (
      if (2000 : Int32) ≤ (gI σ th 7) then
       (
        some (σ, th)
       )
      else
       (
        L_X8_goesOn_20 (L_X8_goesOn_2 th n) th NF σ 1 0
       )
     )
    else
     (
      some (σ, th)
     )
def F_X8_goesOn (σ : GS) (th : Nat) : Option (GS × Nat) :=
  L_X8_goesOn_2 th NF σ 0

def F_L_isSteady (σ : GS) (a1 : Nat) (a2 : Nat) (a3 : Int32) : Option (GS × Int32) :=
  (F_X8_be σ a2 a1).bind fun o1 =>
  (F_X8_goesOn o1.1 o1.2).bind fun o3 =>
  if inB a3 (lnG (rfG a2 14)) then
    if (gI o3.1 (rfG (rfG a2 14) a3.toNatClampNeg) 5) = 3 then
     (
      if inB a3 (lnG (rfG a2 14)) then
        if inB a3 (lnG (rfG a1 14)) then
          if (gI o3.1 (rfG (rfG a2 14) a3.toNatClampNeg) 12) = (gI o3.1 (rfG (rfG a1 14) a3.toNatClampNeg) 12) then
           (
            some (o3.1, 1)
           )
          else
           (
            some (o3.1, 0)
           )
        else none
      else none
     )
    else
     (
      some (o3.1, 0)
     )
  else none

def L_L_changes_295 (a1 : Nat) (a2 : Nat) (a3 : Nat) : Nat → GS → Int32 → Int32 → Option (GS × Int32)
  | 0, _, _, _ => none
  | n + 1, σ, v5, v6 =>
    if v5 ≤ v6 then
     (
      (F_X7_run σ a1 v5).bind fun o25 =>
      if o25.2 = (gI o25.1 a2 7) then
       (
        some (o25.1, 1)
       )
      else
       (
        some (o25.1, 0)
       )
     )
    else
     (
      (F_X8_tick σ a2).bind fun o26 =>
      (L_L_changes_295 a1 a2 a3 n) o26 v5 (v6 + 1)
     )
def F_L_changes (σ : GS) (a1 : Nat) (a2 : Nat) (a3 : Nat) : Option (GS × Int32) :=
  (F_L_draw σ a3 (gI σ a2 4)).bind fun o1 =>
  if inB o1.2 (lnG (rfG a2 14)) then
    (F_L_draw o1.1 a3 8).bind fun o4 =>
    if o4.2 = 0 then
     (
      (F_L_draw o4.1 a3 4).bind fun o8 =>
      let σ9 := sI o8.1 (rfG (rfG a2 14) o1.2.toNatClampNeg) 0 o8.2
      (F_X7_setRule σ9 a1 o1.2 (gI σ9 (rfG (rfG a2 14) o1.2.toNatClampNeg) 0)).bind fun o10 =>
      if o10.2 = (gI o4.1 (rfG (rfG a2 14) o1.2.toNatClampNeg) 0) then
       (
        some (o10.1, 1)
       )
      else
       (
        some (o10.1, 0)
       )
     )
    else
    if o4.2 = 1 then
     (
      (F_L_draw o4.1 a3 9).bind fun o11 =>
      let σ12 := sI o11.1 (rfG (rfG a2 14) o1.2.toNatClampNeg) 2 (1 + o11.2)
      (F_X7_setWeight σ12 a1 o1.2 (gI σ12 (rfG (rfG a2 14) o1.2.toNatClampNeg) 2)).bind fun o13 =>
      if o13.2 = (gI o4.1 (rfG (rfG a2 14) o1.2.toNatClampNeg) 2) then
       (
        some (o13.1, 1)
       )
      else
       (
        some (o13.1, 0)
       )
     )
    else
    if o4.2 = 2 then
     (
      if (gI o4.1 a2 5) = 0 then
       (
        some (o4.1, 1)
       )
      else
       (
        (F_L_draw o4.1 a3 (gI o4.1 a2 5)).bind fun o14 =>
        if inB o14.2 (lnG (rfG a2 10)) then
          (F_L_draw o14.1 a3 200).bind fun o17 =>
          if inB o14.2 (lnG (rfG a2 10)) then
            let σ18 := sI o17.1 (rfG a2 10) o14.2.toNatClampNeg o17.2
            if inB o14.2 (lnG (rfG a2 10)) then
              (F_X7_setRate σ18 a1 o14.2 (gI σ18 (rfG a2 10) o14.2.toNatClampNeg)).bind fun o20 =>
              if o20.2 = (gI o14.1 (rfG a2 10) o14.2.toNatClampNeg) then
               (
                some (o20.1, 1)
               )
              else
               (
                some (o20.1, 0)
               )
            else none
          else none
        else none
       )
     )
    else
    if o4.2 = 3 then
     (
      if (2 : Int32) < (gI o4.1 (rfG (rfG a2 14) o1.2.toNatClampNeg) 5) then
       (
        some (o4.1, 1)
       )
      else
       (
        (F_L_draw o4.1 a3 3).bind fun o21 =>
        if o21.2 ≤ 0 then
         (
          let σ22 := sI o21.1 (rfG (rfG a2 14) o1.2.toNatClampNeg) 5 4
          (F_X7_quit σ22 a1 o1.2).bind fun o23 =>
          if (0 : Int32) ≤ (gI o23.1 (rfG (rfG a2 14) o1.2.toNatClampNeg) 8) then
           (
            (F_X8_sizeOf o23.1 a2 (rfG (rfG a2 14) o1.2.toNatClampNeg) (gI o23.1 (rfG (rfG a2 14) o1.2.toNatClampNeg) 7) (gI o23.1 (rfG (rfG a2 14) o1.2.toNatClampNeg) 8)).bind fun o24 =>
            if o23.2 = (o24 - (gI o23.1 (rfG (rfG a2 14) o1.2.toNatClampNeg) 9)) then
             (
              some (o23.1, 1)
             )
            else
             (
              some (o23.1, 0)
             )
           )
          else
           (
            if o23.2 = 0 then
             (
              some (o23.1, 1)
             )
            else
             (
              some (o23.1, 0)
             )
           )
         )
        else
         (
          some (o21.1, 1)
         )
       )
     )
    else
    (F_L_draw o4.1 a3 2).bind fun o5 =>
    if o5.2 = 0 then
     (
      (F_L_draw o5.1 a3 40).bind fun o7 =>
      L_L_changes_295 a1 a2 a3 NF o7.1 (1 + o7.2) 0
     )
    else
     (
      (F_L_draw o5.1 a3 5).bind fun o6 =>
      L_L_changes_295 a1 a2 a3 NF o6.1 (1 + o6.2) 0
     )
  else none

def L_L_leads_38 (r18 : GS → Int32 → Int32 → Option (GS × Int32)) (a1 : Nat) (a2 : Nat) (a3 : Nat) (a4 : Int32) (a5 : Int32) : Nat → GS → Int32 → Int32 → Option (GS × Int32)
  | 0, _, _, _ => none
  | n + 1, σ, v6, v8 =>
    if (gI σ (rfG (rfG a2 14) a4.toNatClampNeg) 1) ≤ v8 then
     (
      (F_L_isSteady σ a2 a3 a4).bind fun o9 =>
      r18 o9.1 v6 o9.2
     )
    else
     (
      if inB v8 (lnG (rfG (rfG (rfG a2 14) a4.toNatClampNeg) 19)) then
        let σ11 := sI σ (rfG (rfG (rfG a2 14) a4.toNatClampNeg) 19) v8.toNatClampNeg v6
        (L_L_leads_38 r18 a1 a2 a3 a4 a5 n) σ11 v6 (v8 + 1)
      else none
     )
def L_L_leads_139 (r114 : GS → Int32 → Int32 → Int32 → Option (GS × Int32)) (a1 : Nat) (a2 : Nat) (a3 : Nat) (a4 : Int32) (a5 : Int32) : Nat → GS → Int32 → Int32 → Int32 → Option (GS × Int32)
  | 0, _, _, _, _ => none
  | n + 1, σ, v6, v7, v8 =>
    if inB v8 (lnG (rfG (rfG (rfG a2 14) a4.toNatClampNeg) 19)) then
      if (gI σ (rfG (rfG (rfG a2 14) a4.toNatClampNeg) 19) v8.toNatClampNeg) ≤ 0 then
       (
        r114 σ v6 v7 (v8 + 1)
       )
      else
       (
        (F_L_isSteady σ a2 a3 a4).bind fun o26 =>
        if o26.2 = 0 then
         (
          if inB v8 (lnG (rfG (rfG (rfG a2 14) a4.toNatClampNeg) 19)) then
            if inB v8 (lnG (rfG (rfG (rfG a2 14) a4.toNatClampNeg) 19)) then
              let σ28 := sI o26.1 (rfG (rfG (rfG a2 14) a4.toNatClampNeg) 19) v8.toNatClampNeg ((gI o26.1 (rfG (rfG (rfG a2 14) a4.toNatClampNeg) 19) v8.toNatClampNeg) - 1)
              (L_L_leads_139 r114 a1 a2 a3 a4 a5 n) σ28 v6 v7 v8
            else none
          else none
         )
        else
         (
          r114 o26.1 v6 v7 (v8 + 1)
         )
       )
    else none
def J_L_leads_283 (r240 : GS → Int32 → Int32 → Option (GS × Int32)) (a1 : Nat) (a2 : Nat) (a3 : Nat) (a4 : Int32) (a5 : Int32) (σ : GS) (v9 : Int32) : Option (GS × Int32) :=
  if inB v9 (lnG (rfG (rfG (rfG a2 14) a4.toNatClampNeg) 19)) then
    let σ37 := sI σ (rfG (rfG (rfG a2 14) a4.toNatClampNeg) 19) v9.toNatClampNeg (-1)
    r240 σ37 0 (v9 + 1)
  else none
def L_L_leads_240 (a1 : Nat) (a2 : Nat) (a3 : Nat) (a4 : Int32) (a5 : Int32) : Nat → GS → Int32 → Int32 → Option (GS × Int32)
  | 0, _, _, _ => none
  | n + 1, σ, v8, v9 =>
    if (gI σ (rfG (rfG a2 14) a4.toNatClampNeg) 1) ≤ v9 then
     (
      if v8 = 0 then
       (
        some (σ, 0)
       )
      else
       (
        (F_X9_next σ (rfG (rfG a2 14) a4.toNatClampNeg)).bind fun o29 =>
        (F_X7_oracle σ a1 a4 ((gI σ (rfG (rfG a2 14) a4.toNatClampNeg) 1) - o29)).bind fun o30 =>
        if o30.2 = (-1) then
         (
          some (o30.1, 1)
         )
        else
         (
          some (o30.1, 0)
         )
       )
     )
    else
     (
      if v8 = 0 then
       (
        J_L_leads_283 (L_L_leads_240 a1 a2 a3 a4 a5 n) a1 a2 a3 a4 a5 σ v9
       )
      else
       (
        (F_X9_next σ (rfG (rfG a2 14) a4.toNatClampNeg)).bind fun o31 =>
        (F_X7_oracle σ a1 a4 (v9 - o31)).bind fun o32 =>
        if inB v9 (lnG (rfG (rfG (rfG a2 14) a4.toNatClampNeg) 19)) then
          if o32.2 = (gI o32.1 (rfG (rfG (rfG a2 14) a4.toNatClampNeg) 19) v9.toNatClampNeg) then
           (
            if inB v9 (lnG (rfG (rfG (rfG a2 14) a4.toNatClampNeg) 19)) then
              let σ35 := sI o32.1 (rfG (rfG (rfG a2 14) a4.toNatClampNeg) 19) v9.toNatClampNeg (-1)
              (L_L_leads_240 a1 a2 a3 a4 a5 n) σ35 1 (v9 + 1)
            else none
           )
          else
           (
            J_L_leads_283 (L_L_leads_240 a1 a2 a3 a4 a5 n) a1 a2 a3 a4 a5 o32.1 v9
           )
        else none
       )
     )
def J_L_leads_196 (a1 : Nat) (a2 : Nat) (a3 : Nat) (a4 : Int32) (a5 : Int32) (σ : GS) (u0 : Int32) (u1 : Int32) : Option (GS × Int32) :=
  if u1 = u0 then
   (
    (F_X7_regret σ a1 a4).bind fun o16 =>
    (F_X8_be o16.1 a3 a2).bind fun o17 =>
    (F_X8_goesOn o17.1 o17.2).bind fun o19 =>
    if inB a4 (lnG (rfG o19.2 14)) then
      if o16.2 = ((gI o19.1 (rfG (rfG o19.2 14) a4.toNatClampNeg) 15) - a5) then
       (
        (F_X9_next o19.1 (rfG (rfG a2 14) a4.toNatClampNeg)).bind fun o24 =>
        L_L_leads_240 a1 a2 a3 a4 a5 NF o19.1 1 o24
       )
      else
       (
        (F_X9_next o19.1 (rfG (rfG a2 14) a4.toNatClampNeg)).bind fun o23 =>
        L_L_leads_240 a1 a2 a3 a4 a5 NF o19.1 0 o23
       )
    else none
   )
  else
   (
    (F_X9_next σ (rfG (rfG a2 14) a4.toNatClampNeg)).bind fun o15 =>
    L_L_leads_240 a1 a2 a3 a4 a5 NF σ 0 o15
   )
def L_L_leads_114 (a1 : Nat) (a2 : Nat) (a3 : Nat) (a4 : Int32) (a5 : Int32) : Nat → GS → Int32 → Int32 → Int32 → Option (GS × Int32)
  | 0, _, _, _, _ => none
  | n + 1, σ, v6, v7, v8 =>
    if (gI σ (rfG (rfG a2 14) a4.toNatClampNeg) 1) ≤ v8 then
     (
      (F_X7_steadyQuality σ a1 a4).bind fun o12 =>
      if v7 = 0 then
       (
        J_L_leads_196 a1 a2 a3 a4 a5 o12.1 (-1) o12.2
       )
      else
       (
        J_L_leads_196 a1 a2 a3 a4 a5 o12.1 v6 o12.2
       )
     )
    else
     (
      if inB v8 (lnG (rfG (rfG (rfG a2 14) a4.toNatClampNeg) 19)) then
        let σ14 := sI σ (rfG (rfG (rfG a2 14) a4.toNatClampNeg) 19) v8.toNatClampNeg ((gI σ (rfG (rfG a2 14) a4.toNatClampNeg) 3) - 1)
        L_L_leads_139 (L_L_leads_114 a1 a2 a3 a4 a5 n) a1 a2 a3 a4 a5 NF σ14 v6 v7 v8
      else none
     )
def L_L_leads_82 (a1 : Nat) (a2 : Nat) (a3 : Nat) (a4 : Int32) (a5 : Int32) : Nat → GS → Int32 → Int32 → Int32 → Option (GS × Int32)
  | 0, _, _, _, _ => none
  | n + 1, σ, v6, v7, v8 =>
    if (gI σ (rfG (rfG a2 14) a4.toNatClampNeg) 1) ≤ v8 then
     (
      (F_X9_next σ (rfG (rfG a2 14) a4.toNatClampNeg)).bind fun o6 =>
      L_L_leads_114 a1 a2 a3 a4 a5 NF σ v6 v7 o6
     )
    else
     (
      if inB v8 (lnG (rfG (rfG (rfG a2 14) a4.toNatClampNeg) 19)) then
        let σ8 := sI σ (rfG (rfG (rfG a2 14) a4.toNatClampNeg) 19) v8.toNatClampNeg 0
        (L_L_leads_82 a1 a2 a3 a4 a5 n) σ8 v6 v7 (v8 + 1)
      else none
     )
def L_L_leads_18 (a1 : Nat) (a2 : Nat) (a3 : Nat) (a4 : Int32) (a5 : Int32) : Nat → GS → Int32 → Int32 → Option (GS × Int32)
  | 0, _, _, _ => none
  | n + 1, σ, v6, v7 =>
    if v7 = 0 then
     (
      if v6 ≤ 0 then
       (
        (F_X9_next σ (rfG (rfG a2 14) a4.toNatClampNeg)).bind fun o4 =>
        L_L_leads_82 a1 a2 a3 a4 a5 NF σ v6 v7 o4
       )
      else
       (
        (F_X9_next σ (rfG (rfG a2 14) a4.toNatClampNeg)).bind fun o5 =>
        L_L_leads_38 (L_L_leads_18 a1 a2 a3 a4 a5 n) a1 a2 a3 a4 a5 NF σ (v6 + (-1)) o5
       )
     )
    else
     (
      (F_X9_next σ (rfG (rfG a2 14) a4.toNatClampNeg)).bind fun o3 =>
      L_L_leads_82 a1 a2 a3 a4 a5 NF σ v6 v7 o3
     )
def F_L_leads (σ : GS) (a1 : Nat) (a2 : Nat) (a3 : Nat) (a4 : Int32) (a5 : Int32) : Option (GS × Int32) :=
  if inB a4 (lnG (rfG a2 14)) then
    L_L_leads_18 a1 a2 a3 a4 a5 NF σ (gI σ (rfG (rfG a2 14) a4.toNatClampNeg) 3) 0
  else none

