def L_L_asks_159 (a1 : Nat) (a2 : Nat) (a3 : Nat) (a4 : Nat) : Nat → GS → Int32 → Nat → Nat → Int32 → Option (GS × Int32)
  | 0, _, _, _, _, _ => none
  | n + 1, σ, v4, v5, v7, v9 =>
    if (6 : Int32) ≤ v9 then
     (
      (F_L_draw σ a4 3).bind fun o26 =>
      if o26.2 ≤ 0 then
       (
        (F_X9_hasNone o26.1 v5).bind fun o27 =>
        if o27 = 0 then
         (
          (F_L_leads o26.1 a1 a2 a3 v4 (gI o26.1 v7 15)).bind fun o28 =>
          if o28.2 = 0 ∨ o28.2 = 1 then
            some (o28.1, o28.2)
          else none
         )
        else
         (
          (F_X7_steadyQuality o26.1 a1 v4).bind fun o29 =>
          if o29.2 = (-1) then
           (
            (F_X7_oracle o29.1 a1 v4 0).bind fun o30 =>
            if o30.2 = (-1) then
             (
              (F_X7_regret o30.1 a1 v4).bind fun o31 =>
              if o31.2 = 0 then
               (
                some (o31.1, 1)
               )
              else
               (
                some (o31.1, 0)
               )
             )
            else
             (
              some (o30.1, 0)
             )
           )
          else
           (
            some (o29.1, 0)
           )
         )
       )
      else
       (
        some (o26.1, 1)
       )
     )
    else
     (
      (F_X7_forecast σ a1 v4 v9).bind fun o32 =>
      if inB v9 (lnG 393) then
        if o32.2 = (gI o32.1 393 v9.toNatClampNeg) then
         (
          (L_L_asks_159 a1 a2 a3 a4 n) o32.1 v4 v5 v7 (v9 + 1)
         )
        else
         (
          some (o32.1, 0)
         )
      else none
     )
def J_L_asks_37 (a1 : Nat) (a2 : Nat) (a3 : Nat) (a4 : Nat) (σ : GS) (v4 : Int32) (v5 : Nat) (u0 : Int32) : Option (GS × Int32) :=
  (F_X8_be σ a3 a2).bind fun o6 =>
  (F_X8_tick o6.1 o6.2).bind fun o8 =>
  (F_X7_wouldChoose o8 a1 v4).bind fun o9 =>
  if o9 = u0 then
   (
    (F_X7_share o8 a1 v4).bind fun o10 =>
    if inB v4 (lnG (rfG a3 14)) then
      if o10.2 = ((gI o10.1 (rfG (rfG a3 14) v4.toNatClampNeg) 16) - (gI o10.1 v5 16)) then
       (
        (F_X8_be o10.1 a3 a2).bind fun o13 =>
        (F_X8_goesOn o13.1 o13.2).bind fun o15 =>
        if inB v4 (lnG (rfG a3 14)) then
          let σ19 := zN o15.1 393
          if inB 0 (lnG 393) then
            let σ20 := sI σ19 393 (0 : Int32).toNatClampNeg (gI σ19 (rfG (rfG a3 14) v4.toNatClampNeg) 12)
            if inB 1 (lnG 393) then
              let σ21 := sI σ20 393 (1 : Int32).toNatClampNeg (gI σ20 (rfG (rfG a3 14) v4.toNatClampNeg) 13)
              if inB 2 (lnG 393) then
                let σ22 := sI σ21 393 (2 : Int32).toNatClampNeg (gI σ21 (rfG (rfG a3 14) v4.toNatClampNeg) 14)
                if inB 3 (lnG 393) then
                  let σ23 := sI σ22 393 (3 : Int32).toNatClampNeg (gI σ22 (rfG (rfG a3 14) v4.toNatClampNeg) 15)
                  if inB 4 (lnG 393) then
                    let σ24 := sI σ23 393 (4 : Int32).toNatClampNeg (gI σ23 (rfG (rfG a3 14) v4.toNatClampNeg) 7)
                    if inB 5 (lnG 393) then
                      let σ25 := sI σ24 393 (5 : Int32).toNatClampNeg (gI σ24 a3 7)
                      L_L_asks_159 a1 a2 a3 a4 NF σ25 v4 v5 (rfG (rfG a3 14) v4.toNatClampNeg) 0
                    else none
                  else none
                else none
              else none
            else none
          else none
        else none
       )
      else
       (
        some (o10.1, 0)
       )
    else none
   )
  else
   (
    some (o8, 0)
   )
def F_L_asks (σ : GS) (a1 : Nat) (a2 : Nat) (a3 : Nat) (a4 : Nat) : Option (GS × Int32) :=
  (F_L_draw σ a4 (gI σ a2 4)).bind fun o1 =>
  if inB o1.2 (lnG (rfG a2 14)) then
    (F_X9_hasNone o1.1 (rfG (rfG a2 14) o1.2.toNatClampNeg)).bind fun o4 =>
    if o4 = 0 then
     (
      (F_X8_chooses o1.1 a2 (rfG (rfG a2 14) o1.2.toNatClampNeg)).bind fun o5 =>
      J_L_asks_37 a1 a2 a3 a4 o1.1 o1.2 (rfG (rfG a2 14) o1.2.toNatClampNeg) o5
     )
    else
     (
      J_L_asks_37 a1 a2 a3 a4 o1.1 o1.2 (rfG (rfG a2 14) o1.2.toNatClampNeg) (-1)
     )
  else none

def J_L_state_394 (r13 : GS → Int32 → Int32 → UInt64 → UInt64 → Int32 → Option (GS × Int32)) (r275 : GS → Int32 → Int32 → UInt64 → UInt64 → Int32 → Nat → Int32 → Option (GS × Int32)) (a1 : Nat) (a2 : Nat) (σ : GS) (v2 : Int32) (v3 : Int32) (v4 : UInt64) (v6 : UInt64) (v8 : Int32) (v9 : Nat) (v11 : Int32) (v12 : Int32) (u0 : Int32) (u1 : Int32) : Option (GS × Int32) :=
  if u1 = u0 then
   (
    (F_X7_loaded σ a1 v8 v11 3).bind fun o48 =>
    if v12 = 0 then
     (
      if o48 = (-1) then
       (
        r275 σ v2 v3 v4 v6 v8 v9 (v11 + 1)
       )
      else
       (
        some (σ, 0)
       )
     )
    else
     (
      if inB v11 (lnG (rfG v9 22)) then
        if o48 = (gI σ (rfG v9 22) v11.toNatClampNeg) then
         (
          r275 σ v2 v3 v4 v6 v8 v9 (v11 + 1)
         )
        else
         (
          some (σ, 0)
         )
      else none
     )
   )
  else
   (
    some (σ, 0)
   )
def J_L_state_365 (r13 : GS → Int32 → Int32 → UInt64 → UInt64 → Int32 → Option (GS × Int32)) (r275 : GS → Int32 → Int32 → UInt64 → UInt64 → Int32 → Nat → Int32 → Option (GS × Int32)) (a1 : Nat) (a2 : Nat) (σ : GS) (v2 : Int32) (v3 : Int32) (v4 : UInt64) (v6 : UInt64) (v8 : Int32) (v9 : Nat) (v11 : Int32) (v12 : Int32) (u0 : Int32) (u1 : Int32) : Option (GS × Int32) :=
  if u1 = u0 then
   (
    (F_X7_loaded σ a1 v8 v11 2).bind fun o46 =>
    if v12 = 0 then
     (
      J_L_state_394 r13 r275 a1 a2 σ v2 v3 v4 v6 v8 v9 v11 v12 (-1) o46
     )
    else
     (
      if inB v11 (lnG (rfG v9 21)) then
        J_L_state_394 r13 r275 a1 a2 σ v2 v3 v4 v6 v8 v9 v11 v12 (gI σ (rfG v9 21) v11.toNatClampNeg) o46
      else none
     )
   )
  else
   (
    some (σ, 0)
   )
def J_L_state_328 (r13 : GS → Int32 → Int32 → UInt64 → UInt64 → Int32 → Option (GS × Int32)) (r275 : GS → Int32 → Int32 → UInt64 → UInt64 → Int32 → Nat → Int32 → Option (GS × Int32)) (a1 : Nat) (a2 : Nat) (σ : GS) (v2 : Int32) (v3 : Int32) (v4 : UInt64) (v6 : UInt64) (v8 : Int32) (v9 : Nat) (v11 : Int32) (v12 : Int32) (u0 : Int32) (u1 : Int32) : Option (GS × Int32) :=
  if u1 = u0 then
   (
    (F_X7_loaded σ a1 v8 v11 1).bind fun o43 =>
    if v12 = 0 then
     (
      J_L_state_365 r13 r275 a1 a2 σ v2 v3 v4 v6 v8 v9 v11 v12 (-1) o43
     )
    else
     (
      if inB v11 (lnG (rfG v9 20)) then
        (F_X8_sizeOf σ a2 v9 v11 (gI σ (rfG v9 20) v11.toNatClampNeg)).bind fun o45 =>
        J_L_state_365 r13 r275 a1 a2 σ v2 v3 v4 v6 v8 v9 v11 v12 o45 o43
      else none
     )
   )
  else
   (
    some (σ, 0)
   )
def J_L_state_300 (r13 : GS → Int32 → Int32 → UInt64 → UInt64 → Int32 → Option (GS × Int32)) (r275 : GS → Int32 → Int32 → UInt64 → UInt64 → Int32 → Nat → Int32 → Option (GS × Int32)) (a1 : Nat) (a2 : Nat) (σ : GS) (v2 : Int32) (v3 : Int32) (v4 : UInt64) (v6 : UInt64) (v8 : Int32) (v9 : Nat) (v11 : Int32) (u0 : Int32) : Option (GS × Int32) :=
  (F_X7_loaded σ a1 v8 v11 0).bind fun o41 =>
  if u0 = 0 then
   (
    J_L_state_328 r13 r275 a1 a2 σ v2 v3 v4 v6 v8 v9 v11 u0 (-1) o41
   )
  else
   (
    if inB v11 (lnG (rfG v9 20)) then
      J_L_state_328 r13 r275 a1 a2 σ v2 v3 v4 v6 v8 v9 v11 u0 (gI σ (rfG v9 20) v11.toNatClampNeg) o41
    else none
   )
def J_L_state_465 (r13 : GS → Int32 → Int32 → UInt64 → UInt64 → Int32 → Option (GS × Int32)) (a1 : Nat) (a2 : Nat) (σ : GS) (v2 : Int32) (v3 : Int32) (v4 : UInt64) (v6 : UInt64) (v8 : Int32) (v9 : Nat) (u0 : UInt64) (u1 : UInt64) : Option (GS × Int32) :=
  if (Op.cmpValue (FP.dcmp u1 u0) CmpOp.l) = 0 then
   (
    if nN (FP.ddiv (FP.i2d (gI σ v9 16)) (FP.i2d (gI σ v9 2))) then
      if nN (FP.dadd v4 (FP.ddiv (FP.i2d (gI σ v9 16)) (FP.i2d (gI σ v9 2)))) then
        if nN (FP.dmul (FP.ddiv (FP.i2d (gI σ v9 16)) (FP.i2d (gI σ v9 2))) (FP.ddiv (FP.i2d (gI σ v9 16)) (FP.i2d (gI σ v9 2)))) then
          if nN (FP.dadd v6 (FP.dmul (FP.ddiv (FP.i2d (gI σ v9 16)) (FP.i2d (gI σ v9 2))) (FP.ddiv (FP.i2d (gI σ v9 16)) (FP.i2d (gI σ v9 2))))) then
            r13 σ v2 v3 (FP.dadd v4 (FP.ddiv (FP.i2d (gI σ v9 16)) (FP.i2d (gI σ v9 2)))) (FP.dadd v6 (FP.dmul (FP.ddiv (FP.i2d (gI σ v9 16)) (FP.i2d (gI σ v9 2))) (FP.ddiv (FP.i2d (gI σ v9 16)) (FP.i2d (gI σ v9 2))))) (v8 + 1)
          else none
        else none
      else none
    else none
   )
  else
   (
    some (σ, 0)
   )
def L_L_state_275 (r13 : GS → Int32 → Int32 → UInt64 → UInt64 → Int32 → Option (GS × Int32)) (a1 : Nat) (a2 : Nat) : Nat → GS → Int32 → Int32 → UInt64 → UInt64 → Int32 → Nat → Int32 → Option (GS × Int32)
  | 0, _, _, _, _, _, _, _, _ => none
  | n + 1, σ, v2, v3, v4, v6, v8, v9, v11 =>
    if (gI σ v9 1) ≤ v11 then
     (
      (F_X7_meanQuality σ a1 v8).bind fun o40 =>
      if (gI σ v9 7) = 0 then
       (
        J_L_state_465 r13 a1 a2 σ v2 v3 v4 v6 v8 v9 FP.dconst0 o40
       )
      else
       (
        if nN (FP.ddiv (FP.i2d (gI σ v9 15)) (FP.i2d (gI σ v9 7))) then
          J_L_state_465 r13 a1 a2 σ v2 v3 v4 v6 v8 v9 (FP.ddiv (FP.i2d (gI σ v9 15)) (FP.i2d (gI σ v9 7))) o40
        else none
       )
     )
    else
     (
      if (gI σ v9 7) ≤ v11 then
       (
        J_L_state_300 r13 (L_L_state_275 r13 a1 a2 n) a1 a2 σ v2 v3 v4 v6 v8 v9 v11 0
       )
      else
       (
        J_L_state_300 r13 (L_L_state_275 r13 a1 a2 n) a1 a2 σ v2 v3 v4 v6 v8 v9 v11 1
       )
     )
def L_L_state_241 (r13 : GS → Int32 → Int32 → UInt64 → UInt64 → Int32 → Option (GS × Int32)) (a1 : Nat) (a2 : Nat) : Nat → GS → Int32 → Int32 → UInt64 → UInt64 → Int32 → Nat → Int32 → Option (GS × Int32)
  | 0, _, _, _, _, _, _, _, _ => none
  | n + 1, σ, v2, v3, v4, v6, v8, v9, v11 =>
    if (17 : Int32) ≤ v11 then
     (
      L_L_state_275 r13 a1 a2 NF σ v2 v3 v4 v6 v8 v9 0
     )
    else
     (
      (F_X7_player σ a1 v8 v11).bind fun o39 =>
      if inB v11 (lnG 391) then
        if o39 = (gI σ 391 v11.toNatClampNeg) then
         (
          (L_L_state_241 r13 a1 a2 n) σ v2 v3 v4 v6 v8 v9 (v11 + 1)
         )
        else
         (
          some (σ, 0)
         )
      else none
     )
def J_L_state_128 (r13 : GS → Int32 → Int32 → UInt64 → UInt64 → Int32 → Option (GS × Int32)) (a1 : Nat) (a2 : Nat) (σ : GS) (v2 : Int32) (v3 : Int32) (v4 : UInt64) (v6 : UInt64) (v8 : Int32) (v9 : Nat) (u0 : Int32) : Option (GS × Int32) :=
  if inB 4 (lnG 391) then
    let σ26 := sI σ 391 (4 : Int32).toNatClampNeg u0
    if inB 5 (lnG 391) then
      let σ27 := sI σ26 391 (5 : Int32).toNatClampNeg (gI σ26 v9 11)
      if inB 6 (lnG 391) then
        let σ28 := sI σ27 391 (6 : Int32).toNatClampNeg (gI σ27 v9 12)
        if inB 7 (lnG 391) then
          let σ29 := sI σ28 391 (7 : Int32).toNatClampNeg (gI σ28 v9 13)
          if inB 8 (lnG 391) then
            let σ30 := sI σ29 391 (8 : Int32).toNatClampNeg (gI σ29 v9 14)
            if inB 9 (lnG 391) then
              let σ31 := sI σ30 391 (9 : Int32).toNatClampNeg (gI σ30 v9 15)
              if inB 10 (lnG 391) then
                let σ32 := sI σ31 391 (10 : Int32).toNatClampNeg (gI σ31 v9 16)
                if inB 11 (lnG 391) then
                  let σ33 := sI σ32 391 (11 : Int32).toNatClampNeg (gI σ32 v9 17)
                  if inB 12 (lnG 391) then
                    let σ34 := sI σ33 391 (12 : Int32).toNatClampNeg (gI σ33 v9 0)
                    if inB 13 (lnG 391) then
                      let σ35 := sI σ34 391 (13 : Int32).toNatClampNeg (gI σ34 v9 2)
                      if inB 14 (lnG 391) then
                        let σ36 := sI σ35 391 (14 : Int32).toNatClampNeg (gI σ35 v9 1)
                        if inB 15 (lnG 391) then
                          let σ37 := sI σ36 391 (15 : Int32).toNatClampNeg (gI σ36 v9 3)
                          if inB 16 (lnG 391) then
                            let σ38 := sI σ37 391 (16 : Int32).toNatClampNeg (gI σ37 v9 4)
                            L_L_state_241 r13 a1 a2 NF σ38 v2 v3 v4 v6 v8 v9 0
                          else none
                        else none
                      else none
                    else none
                  else none
                else none
              else none
            else none
          else none
        else none
      else none
    else none
  else none
def J_L_state_71 (r13 : GS → Int32 → Int32 → UInt64 → UInt64 → Int32 → Option (GS × Int32)) (a1 : Nat) (a2 : Nat) (σ : GS) (v2 : Int32) (v4 : UInt64) (v6 : UInt64) (v8 : Int32) (v9 : Nat) (u0 : Int32) (u1 : Int32) : Option (GS × Int32) :=
  if inB v8 4 then
    let σ17 := zN σ 391
    if inB 0 (lnG 391) then
      let σ18 := sI σ17 391 (0 : Int32).toNatClampNeg (gI σ17 v9 5)
      if inB 1 (lnG 391) then
        let σ19 := sI σ18 391 (1 : Int32).toNatClampNeg (gI σ18 v9 6)
        if inB 2 (lnG 391) then
          let σ20 := sI σ19 391 (2 : Int32).toNatClampNeg (gI σ19 v9 7)
          if inB 3 (lnG 391) then
            let σ21 := sI σ20 391 (3 : Int32).toNatClampNeg (gI σ20 v9 8)
            if (0 : Int32) ≤ (gI σ21 v9 8) then
             (
              J_L_state_128 r13 a1 a2 σ21 v2 (u1 + u0) v4 v6 v8 v9 (gI σ21 v9 9)
             )
            else
             (
              J_L_state_128 r13 a1 a2 σ21 v2 (u1 + u0) v4 v6 v8 v9 0
             )
          else none
        else none
      else none
    else none
  else none
def J_L_state_54 (r13 : GS → Int32 → Int32 → UInt64 → UInt64 → Int32 → Option (GS × Int32)) (a1 : Nat) (a2 : Nat) (σ : GS) (v3 : Int32) (v4 : UInt64) (v6 : UInt64) (v8 : Int32) (v9 : Nat) (u0 : Int32) (u1 : Int32) : Option (GS × Int32) :=
  if (gI σ v9 5) = 3 then
   (
    J_L_state_71 r13 a1 a2 σ (u1 + u0) v4 v6 v8 v9 1 v3
   )
  else
   (
    J_L_state_71 r13 a1 a2 σ (u1 + u0) v4 v6 v8 v9 0 v3
   )
def J_L_state_53 (r13 : GS → Int32 → Int32 → UInt64 → UInt64 → Int32 → Option (GS × Int32)) (a1 : Nat) (a2 : Nat) (σ : GS) (v3 : Int32) (v4 : UInt64) (v6 : UInt64) (v8 : Int32) (v9 : Nat) (u0 : Int32) : Option (GS × Int32) :=
  J_L_state_54 r13 a1 a2 σ v3 v4 v6 v8 v9 0 u0
def L_L_state_651 (a1 : Nat) (a2 : Nat) : Nat → GS → UInt64 → UInt64 → Int32 → Option (GS × Int32)
  | 0, _, _, _, _ => none
  | n + 1, σ, v4, v6, v9 =>
    if (9 : Int32) ≤ v9 then
     (
      (F_X7_isWhole σ a1).bind fun o22 =>
      if o22 = 0 then
       (
        some (σ, 0)
       )
      else
       (
        (F_X7_fairness σ a1).bind fun o23 =>
        if (Op.cmpValue (FP.dcmp v6 FP.dconst0) CmpOp.l) = 0 then
         (
          if (Op.cmpValue (FP.dcmp o23 FP.dconst1) CmpOp.l) = 0 then
           (
            some (σ, 1)
           )
          else
           (
            some (σ, 0)
           )
         )
        else
         (
          if nN (FP.dmul v4 v4) then
            if nN (FP.dmul (FP.i2d (gI σ a2 4)) v6) then
              if nN (FP.ddiv (FP.dmul v4 v4) (FP.dmul (FP.i2d (gI σ a2 4)) v6)) then
                if (Op.cmpValue (FP.dcmp o23 (FP.ddiv (FP.dmul v4 v4) (FP.dmul (FP.i2d (gI σ a2 4)) v6))) CmpOp.l) = 0 then
                 (
                  some (σ, 1)
                 )
                else
                 (
                  some (σ, 0)
                 )
              else none
            else none
          else none
         )
       )
     )
    else
     (
      (F_X7_rate σ a1 (7 * v9)).bind fun o24 =>
      (F_X8_rateAt σ a2 (7 * v9)).bind fun o25 =>
      if o24 = o25 then
       (
        (L_L_state_651 a1 a2 n) σ v4 v6 (v9 + 1)
       )
      else
       (
        some (σ, 0)
       )
     )
def L_L_state_618 (a1 : Nat) (a2 : Nat) : Nat → GS → UInt64 → UInt64 → Int32 → Option (GS × Int32)
  | 0, _, _, _, _ => none
  | n + 1, σ, v4, v6, v9 =>
    if (4 : Int32) ≤ v9 then
     (
      L_L_state_651 a1 a2 NF σ v4 v6 0
     )
    else
     (
      (F_X7_account σ a1 v9).bind fun o15 =>
      if inB v9 (lnG (rfG a2 12)) then
        if o15 = (gI σ (rfG a2 12) v9.toNatClampNeg) then
         (
          (L_L_state_618 a1 a2 n) σ v4 v6 (v9 + 1)
         )
        else
         (
          some (σ, 0)
         )
      else none
     )
def L_L_state_586 (a1 : Nat) (a2 : Nat) : Nat → GS → UInt64 → UInt64 → Int32 → Option (GS × Int32)
  | 0, _, _, _, _ => none
  | n + 1, σ, v4, v6, v9 =>
    if (10 : Int32) ≤ v9 then
     (
      L_L_state_618 a1 a2 NF σ v4 v6 0
     )
    else
     (
      (F_X7_size σ a1 v9).bind fun o14 =>
      if inB v9 (lnG 392) then
        if o14 = (gI σ 392 v9.toNatClampNeg) then
         (
          (L_L_state_586 a1 a2 n) σ v4 v6 (v9 + 1)
         )
        else
         (
          some (σ, 0)
         )
      else none
     )
def L_L_state_13 (a1 : Nat) (a2 : Nat) : Nat → GS → Int32 → Int32 → UInt64 → UInt64 → Int32 → Option (GS × Int32)
  | 0, _, _, _, _, _, _ => none
  | n + 1, σ, v2, v3, v4, v6, v8 =>
    if (gI σ a2 4) ≤ v8 then
     (
      if inB v8 5 then
        let σ1 := zN σ 392
        if inB 0 (lnG 392) then
          let σ2 := sI σ1 392 (0 : Int32).toNatClampNeg (gI σ1 a2 4)
          if inB 1 (lnG 392) then
            let σ3 := sI σ2 392 (1 : Int32).toNatClampNeg (gI σ2 a2 5)
            if inB 2 (lnG 392) then
              let σ4 := sI σ3 392 (2 : Int32).toNatClampNeg (gI σ3 a2 0)
              if inB 3 (lnG 392) then
                let σ5 := sI σ4 392 (3 : Int32).toNatClampNeg (gI σ4 a2 1)
                if inB 4 (lnG 392) then
                  let σ6 := sI σ5 392 (4 : Int32).toNatClampNeg (gI σ5 a2 2)
                  if inB 5 (lnG 392) then
                    let σ7 := sI σ6 392 (5 : Int32).toNatClampNeg (gI σ6 a2 3)
                    if inB 6 (lnG 392) then
                      let σ8 := sI σ7 392 (6 : Int32).toNatClampNeg (gI σ7 a2 6)
                      if inB 7 (lnG 392) then
                        let σ9 := sI σ8 392 (7 : Int32).toNatClampNeg (gI σ8 a2 7)
                        if inB 8 (lnG 392) then
                          let σ10 := sI σ9 392 (8 : Int32).toNatClampNeg v2
                          if inB 9 (lnG 392) then
                            let σ11 := sI σ10 392 (9 : Int32).toNatClampNeg v3
                            L_L_state_586 a1 a2 NF σ11 v4 v6 0
                          else none
                        else none
                      else none
                    else none
                  else none
                else none
              else none
            else none
          else none
        else none
      else none
     )
    else
     (
      if inB v8 (lnG (rfG a2 14)) then
        if (gI σ (rfG (rfG a2 14) v8.toNatClampNeg) 5) = 4 then
         (
          J_L_state_53 (L_L_state_13 a1 a2 n) a1 a2 σ v3 v4 v6 v8 (rfG (rfG a2 14) v8.toNatClampNeg) v2
         )
        else
         (
          if (gI σ (rfG (rfG a2 14) v8.toNatClampNeg) 8) < 0 then
           (
            J_L_state_53 (L_L_state_13 a1 a2 n) a1 a2 σ v3 v4 v6 v8 (rfG (rfG a2 14) v8.toNatClampNeg) v2
           )
          else
           (
            J_L_state_54 (L_L_state_13 a1 a2 n) a1 a2 σ v3 v4 v6 v8 (rfG (rfG a2 14) v8.toNatClampNeg) 1 v2
           )
         )
      else none
     )
def F_L_state (σ : GS) (a1 : Nat) (a2 : Nat) : Option (GS × Int32) :=
  L_L_state_13 a1 a2 NF σ 0 0 FP.dconst0 FP.dconst0 0

