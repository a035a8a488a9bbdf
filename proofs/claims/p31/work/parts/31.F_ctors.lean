/-- the fixed references of the cells of a list are in place, and stay in the list -/
abbrev RRc (σ : GS) (lst : List Nat) : Prop := ∀ i ∈ lst, (∀ k, k < 30 → rfG i k ≠ 0 → gR σ i k = some (rfG i k) ∧ rfG i k ∈ lst) ∧ (kdG i = 3 → gR σ i 18 = none)
theorem rf30 : ∀ i k, 30 ≤ k → rfG i k = 0 := by
  have h : ∀ r ∈ rfL, r.length ≤ 30 := by decide +kernel
  intro i k hk
  unfold rfG
  rw [List.getD_eq_getElem?_getD, List.getElem?_eq_none]
  · rfl
  · rw [List.getD_eq_getElem?_getD]
    cases hi : rfL[i]? with
    | none => exact Nat.zero_le _
    | some r => exact Nat.le_trans (h r (List.mem_of_getElem? hi)) hk
theorem RRc.rr {σ : GS} {lst : List Nat} (h : RRc σ lst) : RR (fun i => i ∈ lst) σ := by
  refine ⟨fun i k hi hk => ?_, fun i v hi hk hv => ?_⟩
  · by_cases h30 : k < 30
    · exact (h i hi).1 k h30 hk
    · exact absurd (rf30 i k (Nat.not_lt.mp h30)) hk
  · rw [(h i hi).2 hk] at hv
    cases hv
theorem ac_byte : Cond.arrayClass (newarray.typeOf .byte) ∈ TB := (mT 244 (by decide +kernel) (by decide +kernel))
theorem ac_boolean : Cond.arrayClass (newarray.typeOf .boolean) ∈ TB := (mT 448 (by decide +kernel) (by decide +kernel))
theorem mo_X7 : Cond.methodLink RX7 1 objectInit ∈ TB := (mT 64 (by decide +kernel) (by decide +kernel))
theorem clk_X7_7 : Cond.classLink RX7 7 RX4 ∈ TB := (mT 67 (by decide +kernel) (by decide +kernel))
theorem mo_X4 : Cond.methodLink RX4 3 objectInit ∈ TB := (mT 72 (by decide +kernel) (by decide +kernel))
theorem clk_X4_9 : Cond.classLink RX4 9 RX1 ∈ TB := (mT 73 (by decide +kernel) (by decide +kernel))
theorem mo_X1 : Cond.methodLink RX1 3 objectInit ∈ TB := (mT 78 (by decide +kernel) (by decide +kernel))
theorem clk_X1_21 : Cond.classLink RX1 21 RX6 ∈ TB := (mT 79 (by decide +kernel) (by decide +kernel))
theorem mo_X6 : Cond.methodLink RX6 3 objectInit ∈ TB := (mT 85 (by decide +kernel) (by decide +kernel))
theorem clk_X7_16 : Cond.classLink RX7 16 RX1 ∈ TB := (mT 245 (by decide +kernel) (by decide +kernel))
theorem clk_X7_23 : Cond.classLink RX7 23 RX5 ∈ TB := (mT 247 (by decide +kernel) (by decide +kernel))
theorem mo_X5 : Cond.methodLink RX5 3 objectInit ∈ TB := (mT 252 (by decide +kernel) (by decide +kernel))
theorem clk_X5_15 : Cond.classLink RX5 15 RX3 ∈ TB := (mT 253 (by decide +kernel) (by decide +kernel))
theorem mo_X3 : Cond.methodLink RX3 3 objectInit ∈ TB := (mT 259 (by decide +kernel) (by decide +kernel))
theorem clk_X7_32 : Cond.classLink RX7 32 RX2 ∈ TB := (mT 377 (by decide +kernel) (by decide +kernel))
theorem mo_X2 : Cond.methodLink RX2 3 objectInit ∈ TB := (mT 382 (by decide +kernel) (by decide +kernel))
theorem clk_X2_19 : Cond.classLink RX2 19 RX5 ∈ TB := (mT 383 (by decide +kernel) (by decide +kernel))
theorem clk_X7_41 : Cond.classLink RX7 41 RX0 ∈ TB := (mT 398 (by decide +kernel) (by decide +kernel))
theorem mo_X0 : Cond.methodLink RX0 3 objectInit ∈ TB := (mT 403 (by decide +kernel) (by decide +kernel))
theorem clk_X0_9 : Cond.classLink RX0 9 RX5 ∈ TB := (mT 404 (by decide +kernel) (by decide +kernel))
theorem mo_X8 : Cond.methodLink RX8 1 objectInit ∈ TB := (mT 491 (by decide +kernel) (by decide +kernel))
theorem clk_X8_29 : Cond.classLink RX8 29 RX9 ∈ TB := (mT 492 (by decide +kernel) (by decide +kernel))
theorem mo_X9 : Cond.methodLink RX9 1 objectInit ∈ TB := (mT 498 (by decide +kernel) (by decide +kernel))
theorem ins_X0 : Cond.instantiable RX0 (nF 0) ∈ TB := (mT 399 (by decide +kernel) (by decide +kernel))
theorem ins_X1 : Cond.instantiable RX1 (nF 1) ∈ TB := (mT 74 (by decide +kernel) (by decide +kernel))
theorem ins_X2 : Cond.instantiable RX2 (nF 2) ∈ TB := (mT 378 (by decide +kernel) (by decide +kernel))
theorem ins_X3 : Cond.instantiable RX3 (nF 3) ∈ TB := (mT 255 (by decide +kernel) (by decide +kernel))
theorem ins_X4 : Cond.instantiable RX4 (nF 4) ∈ TB := (mT 68 (by decide +kernel) (by decide +kernel))
theorem ins_X5 : Cond.instantiable RX5 (nF 5) ∈ TB := (mT 248 (by decide +kernel) (by decide +kernel))
theorem ins_X6 : Cond.instantiable RX6 (nF 6) ∈ TB := (mT 81 (by decide +kernel) (by decide +kernel))
theorem ins_X7 : Cond.instantiable RX7 (nF 7) ∈ TB := (mT 60 (by decide +kernel) (by decide +kernel))
theorem ins_X8 : Cond.instantiable RX8 (nF 8) ∈ TB := (mT 487 (by decide +kernel) (by decide +kernel))
theorem ins_X9 : Cond.instantiable RX9 (nF 9) ∈ TB := (mT 494 (by decide +kernel) (by decide +kernel))
theorem im_obj : Cond.instanceMethod objectInit ∈ TB := (mT 65 (by decide +kernel) (by decide +kernel))
theorem cy_obj : Cond.code objectInit ⟨#[0xb1]⟩ 1 none ∈ TB := (mT 66 (by decide +kernel) (by decide +kernel))
theorem ff_X6_9 : FLf RX6 9 6 0 := ⟨_, _, cl_6, by decide, rfl, wf_X6_9, rfl, rfl⟩
theorem ff_X6_15 : FLf RX6 15 6 1 := ⟨_, _, cl_6, by decide, rfl, wf_X6_15, rfl, rfl⟩
theorem ff_X1_9 : FLf RX1 9 1 0 := ⟨_, _, cl_1, by decide, rfl, wf_X1_9, rfl, rfl⟩
theorem ff_X1_15 : FLf RX1 15 1 1 := ⟨_, _, cl_1, by decide, rfl, wf_X1_15, rfl, rfl⟩
theorem ff_X1_18 : FLf RX1 18 1 2 := ⟨_, _, cl_1, by decide, rfl, wf_X1_18, rfl, rfl⟩
theorem ff_X1_23 : FLf RX1 23 1 3 := ⟨_, _, cl_1, by decide, rfl, wf_X1_23, rfl, rfl⟩
theorem ff_X3_9 : FLf RX3 9 3 2 := ⟨_, _, cl_3, by decide, rfl, wf_X3_9, rfl, rfl⟩
theorem ff_X3_15 : FLf RX3 15 3 3 := ⟨_, _, cl_3, by decide, rfl, wf_X3_15, rfl, rfl⟩
theorem ff_X3_18 : FLf RX3 18 3 4 := ⟨_, _, cl_3, by decide, rfl, wf_X3_18, rfl, rfl⟩
theorem ff_X3_21 : FLf RX3 21 3 0 := ⟨_, _, cl_3, by decide, rfl, wf_X3_21, rfl, rfl⟩
theorem ff_X3_25 : FLf RX3 25 3 1 := ⟨_, _, cl_3, by decide, rfl, wf_X3_25, rfl, rfl⟩
theorem ff_X5_9 : FLf RX5 9 5 1 := ⟨_, _, cl_5, by decide, rfl, wf_X5_9, rfl, rfl⟩
theorem ff_X5_17 : FLf RX5 17 5 2 := ⟨_, _, cl_5, by decide, rfl, wf_X5_17, rfl, rfl⟩
theorem ff_X5_25 : FLf RX5 25 5 0 := ⟨_, _, cl_5, by decide, rfl, wf_X5_25, rfl, rfl⟩
theorem ff_X0_11 : FLf RX0 11 0 0 := ⟨_, _, cl_0, by decide, rfl, wf_X0_11, rfl, rfl⟩
theorem ff_X2_9 : FLf RX2 9 2 3 := ⟨_, _, cl_2, by decide, rfl, wf_X2_9, rfl, rfl⟩
theorem ff_X2_15 : FLf RX2 15 2 0 := ⟨_, _, cl_2, by decide, rfl, wf_X2_15, rfl, rfl⟩
theorem ff_X2_28 : FLf RX2 28 2 1 := ⟨_, _, cl_2, by decide, rfl, wf_X2_28, rfl, rfl⟩
theorem ff_X2_31 : FLf RX2 31 2 2 := ⟨_, _, cl_2, by decide, rfl, wf_X2_31, rfl, rfl⟩
theorem ff_X4_12 : FLf RX4 12 4 0 := ⟨_, _, cl_4, by decide, rfl, wf_X4_12, rfl, rfl⟩
theorem ff_X4_18 : FLf RX4 18 4 1 := ⟨_, _, cl_4, by decide, rfl, wf_X4_18, rfl, rfl⟩
theorem ff_X7_10 : FLf RX7 10 7 0 := ⟨_, _, cl_7, by decide, rfl, wf_X7_10, rfl, rfl⟩
theorem ff_X7_19 : FLf RX7 19 7 1 := ⟨_, _, cl_7, by decide, rfl, wf_X7_19, rfl, rfl⟩
theorem ff_X7_28 : FLf RX7 28 7 2 := ⟨_, _, cl_7, by decide, rfl, wf_X7_28, rfl, rfl⟩
theorem ff_X7_37 : FLf RX7 37 7 3 := ⟨_, _, cl_7, by decide, rfl, wf_X7_37, rfl, rfl⟩
theorem ff_X7_44 : FLf RX7 44 7 4 := ⟨_, _, cl_7, by decide, rfl, wf_X7_44, rfl, rfl⟩
theorem ff_X7_48 : FLf RX7 48 7 5 := ⟨_, _, cl_7, by decide, rfl, wf_X7_48, rfl, rfl⟩
theorem ff_X7_52 : FLf RX7 52 7 6 := ⟨_, _, cl_7, by decide, rfl, wf_X7_52, rfl, rfl⟩
theorem ff_X9_13 : FLf RX9 13 9 18 := ⟨_, _, cl_9, by decide, rfl, wf_X9_13, rfl, rfl⟩
theorem ff_X9_17 : FLf RX9 17 9 19 := ⟨_, _, cl_9, by decide, rfl, wf_X9_17, rfl, rfl⟩
theorem ff_X9_20 : FLf RX9 20 9 20 := ⟨_, _, cl_9, by decide, rfl, wf_X9_20, rfl, rfl⟩
theorem ff_X9_23 : FLf RX9 23 9 21 := ⟨_, _, cl_9, by decide, rfl, wf_X9_23, rfl, rfl⟩
theorem ff_X9_26 : FLf RX9 26 9 22 := ⟨_, _, cl_9, by decide, rfl, wf_X9_26, rfl, rfl⟩
theorem ff_X8_13 : FLf RX8 13 8 9 := ⟨_, _, cl_8, by decide, rfl, wf_X8_13, rfl, rfl⟩
theorem ff_X8_17 : FLf RX8 17 8 10 := ⟨_, _, cl_8, by decide, rfl, wf_X8_17, rfl, rfl⟩
theorem ff_X8_20 : FLf RX8 20 8 11 := ⟨_, _, cl_8, by decide, rfl, wf_X8_20, rfl, rfl⟩
theorem ff_X8_23 : FLf RX8 23 8 12 := ⟨_, _, cl_8, by decide, rfl, wf_X8_23, rfl, rfl⟩
theorem ff_X8_26 : FLf RX8 26 8 13 := ⟨_, _, cl_8, by decide, rfl, wf_X8_26, rfl, rfl⟩
theorem ff_X8_32 : FLf RX8 32 8 14 := ⟨_, _, cl_8, by decide, rfl, wf_X8_32, rfl, rfl⟩
def F_X6_init (σ : GS) (n0 : Nat) (th : Nat) : Option GS :=
  if kdG (n0) = 11 ∧ lnG (n0) = 4 ∧ n0 + 1 ≤ n0 + 2 ∧ 0 + 4 ≤ 124 then
    let σ2 := zN σ (n0)
    let σ3 := sR σ2 th 0 (some n0)
    if kdG (n0 + 1) = 11 ∧ lnG (n0 + 1) = 120 ∧ n0 + 1 + 1 ≤ n0 + 2 ∧ 0 + 4 + 120 ≤ 124 then
      let σ5 := zN σ3 (n0 + 1)
      let σ6 := sR σ5 th 1 (some (n0 + 1))
      if n0 + 1 + 1 = n0 + 2 ∧ 0 + 4 + 120 ≤ 124 then
        some σ6
      else none
    else none
  else none

def L_X1_init_37 (n0 : Nat) (th : Nat) : Nat → GS → Nat → Nat → Int32 → Option GS
  | 0, _, _, _, _ => none
  | k + 1, σ, n, m, v1 =>
    if gR σ th 3 = some (rfG th 3) ∧ rfG th 3 < n then
      if (nI (lnG (rfG th 3))) ≤ v1 then
       (
        if RRc σ ((List.range 17).map (fun j => th + j)) ∧ (∀ i ∈ (List.range 17).map (fun j => th + j), i < n) ∧ th ∈ (List.range 17).map (fun j => th + j) ∧ n ≤ n0 + 16 ∧ m ≤ 556 then
          (F_X1_clear σ th).bind fun o14 =>
          let σ15 := mrg ((List.range 17).map (fun j => th + j)) o14 σ
          if n = n0 + 16 ∧ m ≤ 556 then
            some σ15
          else none
        else none
       )
      else
       (
        if gR σ th 3 = some (rfG th 3) ∧ rfG th 3 < n then
          if kdG (n) = 6 ∧ n + 1 ≤ n0 + 16 ∧ m + 9 ≤ 556 then
            let σ18 := zN σ (n)
            if n + 1 + 2 ≤ n0 + 16 ∧ m + 9 + 124 ≤ 556 then
              (F_X6_init σ18 (n + 1) n).bind fun o19 =>
              if inB v1 (lnG (rfG th 3)) then
                let σ20 := sR o19 (rfG th 3) v1.toNatClampNeg (some n)
                L_X1_init_37 n0 th k σ20 (n + 1 + 2) (m + 9 + 124) (v1 + 1)
              else none
            else none
          else none
        else none
       )
    else none
def F_X1_init (σ : GS) (n0 : Nat) (th : Nat) : Option GS :=
  if kdG (n0) = 11 ∧ lnG (n0) = 8 ∧ n0 + 1 ≤ n0 + 16 ∧ 0 + 8 ≤ 556 then
    let σ2 := zN σ (n0)
    let σ3 := sR σ2 th 0 (some n0)
    if kdG (n0 + 1) = 11 ∧ lnG (n0 + 1) = 8 ∧ n0 + 1 + 1 ≤ n0 + 16 ∧ 0 + 8 + 8 ≤ 556 then
      let σ5 := zN σ3 (n0 + 1)
      let σ6 := sR σ5 th 1 (some (n0 + 1))
      if kdG (n0 + 1 + 1) = 11 ∧ lnG (n0 + 1 + 1) = 4 ∧ n0 + 1 + 1 + 1 ≤ n0 + 16 ∧ 0 + 8 + 8 + 4 ≤ 556 then
        let σ8 := zN σ6 (n0 + 1 + 1)
        let σ9 := sR σ8 th 2 (some (n0 + 1 + 1))
        if kdG (n0 + 1 + 1 + 1) = 15 ∧ lnG (n0 + 1 + 1 + 1) = 4 ∧ n0 + 1 + 1 + 1 + 1 ≤ n0 + 16 ∧ 0 + 8 + 8 + 4 + 4 ≤ 556 then
          let σ11 := zN σ9 (n0 + 1 + 1 + 1)
          let σ12 := sR σ11 th 3 (some (n0 + 1 + 1 + 1))
          L_X1_init_37 n0 th NF σ12 (n0 + 1 + 1 + 1 + 1) (0 + 8 + 8 + 4 + 4) 0
        else none
      else none
    else none
  else none

def F_X3_init (σ : GS) (n0 : Nat) (th : Nat) (a1 : Nat) (a2 : Nat) : Option GS :=
  if kdG (n0) = 11 ∧ lnG (n0) = 30 ∧ n0 + 1 ≤ n0 + 3 ∧ 0 + 30 ≤ 90 then
    let σ2 := zN σ (n0)
    let σ3 := sR σ2 th 2 (some n0)
    if kdG (n0 + 1) = 11 ∧ lnG (n0 + 1) = 30 ∧ n0 + 1 + 1 ≤ n0 + 3 ∧ 0 + 30 + 30 ≤ 90 then
      let σ5 := zN σ3 (n0 + 1)
      let σ6 := sR σ5 th 3 (some (n0 + 1))
      if kdG (n0 + 1 + 1) = 11 ∧ lnG (n0 + 1 + 1) = 30 ∧ n0 + 1 + 1 + 1 ≤ n0 + 3 ∧ 0 + 30 + 30 + 30 ≤ 90 then
        let σ8 := zN σ6 (n0 + 1 + 1)
        let σ9 := sR σ8 th 4 (some (n0 + 1 + 1))
        let σ10 := sR σ9 th 0 (some a1)
        let σ11 := sR σ10 th 1 (some a2)
        if RRc σ11 ((List.range 17).map (fun j => a1 + j) ++ (List.range 4).map (fun j => th + j)) ∧ (∀ i ∈ (List.range 17).map (fun j => a1 + j) ++ (List.range 4).map (fun j => th + j), i < n0 + 1 + 1 + 1) ∧ th ∈ (List.range 17).map (fun j => a1 + j) ++ (List.range 4).map (fun j => th + j) ∧ n0 + 1 + 1 + 1 ≤ n0 + 3 ∧ 0 + 30 + 30 + 30 ≤ 90 then
          (F_X3_begin σ11 th 0).bind fun o12 =>
          let σ13 := mrg ((List.range 17).map (fun j => a1 + j) ++ (List.range 4).map (fun j => th + j)) o12 σ11
          if n0 + 1 + 1 + 1 = n0 + 3 ∧ 0 + 30 + 30 + 30 ≤ 90 then
            some σ13
          else none
        else none
      else none
    else none
  else none

def L_X5_init_32 (n0 : Nat) (th : Nat) (a1 : Nat) : Nat → GS → Nat → Nat → Int32 → Option GS
  | 0, _, _, _, _ => none
  | k + 1, σ, n, m, v2 =>
    if gR σ th 2 = some (rfG th 2) ∧ rfG th 2 < n then
      if (nI (lnG (rfG th 2))) ≤ v2 then
       (
        if n = n0 + 18 ∧ m ≤ 448 then
          some σ
        else none
       )
      else
       (
        if gR σ a1 3 = some (rfG a1 3) ∧ rfG a1 3 < n then
          if (nI (lnG (rfG a1 3))) ≤ v2 then
           (
            if n = n0 + 18 ∧ m ≤ 448 then
              some σ
            else none
           )
          else
           (
            if gR σ th 2 = some (rfG th 2) ∧ rfG th 2 < n then
              if kdG (n) = 3 ∧ n + 1 ≤ n0 + 18 ∧ m + 19 ≤ 448 then
                let σ13 := zN σ (n)
                if gR σ13 a1 3 = some (rfG a1 3) ∧ rfG a1 3 < n + 1 then
                  if inB v2 (lnG (rfG a1 3)) ∧ gR σ13 (rfG a1 3) v2.toNatClampNeg = some (rfG (rfG a1 3) v2.toNatClampNeg) ∧ rfG (rfG a1 3) v2.toNatClampNeg < n + 1 then
                    if n + 1 + 3 ≤ n0 + 18 ∧ m + 19 + 90 ≤ 448 then
                      (F_X3_init σ13 (n + 1) n a1 (rfG (rfG a1 3) v2.toNatClampNeg)).bind fun o16 =>
                      if inB v2 (lnG (rfG th 2)) then
                        let σ17 := sR o16 (rfG th 2) v2.toNatClampNeg (some n)
                        L_X5_init_32 n0 th a1 k σ17 (n + 1 + 3) (m + 19 + 90) (v2 + 1)
                      else none
                    else none
                  else none
                else none
              else none
            else none
           )
        else none
       )
    else none
def F_X5_init (σ : GS) (n0 : Nat) (th : Nat) (a1 : Nat) : Option GS :=
  if kdG (n0) = 11 ∧ lnG (n0) = 8 ∧ n0 + 1 ≤ n0 + 18 ∧ 0 + 8 ≤ 448 then
    let σ2 := zN σ (n0)
    let σ3 := sR σ2 th 1 (some n0)
    if kdG (n0 + 1) = 13 ∧ lnG (n0 + 1) = 4 ∧ n0 + 1 + 1 ≤ n0 + 18 ∧ 0 + 8 + 4 ≤ 448 then
      let σ5 := zN σ3 (n0 + 1)
      let σ6 := sR σ5 th 2 (some (n0 + 1))
      let σ7 := sI σ6 th 6 (-1)
      let σ8 := sR σ7 th 0 (some a1)
      L_X5_init_32 n0 th a1 NF σ8 (n0 + 1 + 1) (0 + 8 + 4) 0
    else none
  else none

def L_X0_init_15 (n0 : Nat) (th : Nat) (a1 : Nat) : Nat → GS → Nat → Nat → Int32 → Option GS
  | 0, _, _, _, _ => none
  | k + 1, σ, n, m, v2 =>
    if gR σ th 0 = some (rfG th 0) ∧ rfG th 0 < n then
      if (nI (lnG (rfG th 0))) ≤ v2 then
       (
        if n = n0 + 191 ∧ m ≤ 4560 then
          some σ
        else none
       )
      else
       (
        if gR σ th 0 = some (rfG th 0) ∧ rfG th 0 < n then
          if kdG (n) = 5 ∧ n + 1 ≤ n0 + 191 ∧ m + 7 ≤ 4560 then
            let σ7 := zN σ (n)
            if n + 1 + 18 ≤ n0 + 191 ∧ m + 7 + 448 ≤ 4560 then
              (F_X5_init σ7 (n + 1) n a1).bind fun o8 =>
              if inB v2 (lnG (rfG th 0)) then
                let σ9 := sR o8 (rfG th 0) v2.toNatClampNeg (some n)
                L_X0_init_15 n0 th a1 k σ9 (n + 1 + 18) (m + 7 + 448) (v2 + 1)
              else none
            else none
          else none
        else none
       )
    else none
def F_X0_init (σ : GS) (n0 : Nat) (th : Nat) (a1 : Nat) : Option GS :=
  if kdG (n0) = 14 ∧ lnG (n0) = 10 ∧ n0 + 1 ≤ n0 + 191 ∧ 0 + 10 ≤ 4560 then
    let σ2 := zN σ (n0)
    let σ3 := sR σ2 th 0 (some n0)
    L_X0_init_15 n0 th a1 NF σ3 (n0 + 1) (0 + 10) 0
  else none

def F_X2_init (σ : GS) (n0 : Nat) (th : Nat) (a1 : Nat) : Option GS :=
  if kdG (n0) = 11 ∧ lnG (n0) = 30 ∧ n0 + 1 ≤ n0 + 39 ∧ 0 + 30 ≤ 940 then
    let σ2 := zN σ (n0)
    let σ3 := sR σ2 th 3 (some n0)
    let σ4 := sR σ3 th 0 (some a1)
    if kdG (n0 + 1) = 5 ∧ n0 + 1 + 1 ≤ n0 + 39 ∧ 0 + 30 + 7 ≤ 940 then
      let σ6 := zN σ4 (n0 + 1)
      if gR σ6 a1 0 = some (rfG a1 0) ∧ rfG a1 0 < n0 + 1 + 1 then
        if n0 + 1 + 1 + 18 ≤ n0 + 39 ∧ 0 + 30 + 7 + 448 ≤ 940 then
          (F_X5_init σ6 (n0 + 1 + 1) (n0 + 1) (rfG a1 0)).bind fun o8 =>
          let σ9 := sR o8 th 1 (some (n0 + 1))
          if kdG (n0 + 1 + 1 + 18) = 5 ∧ n0 + 1 + 1 + 18 + 1 ≤ n0 + 39 ∧ 0 + 30 + 7 + 448 + 7 ≤ 940 then
            let σ11 := zN σ9 (n0 + 1 + 1 + 18)
            if gR σ11 a1 0 = some (rfG a1 0) ∧ rfG a1 0 < n0 + 1 + 1 + 18 + 1 then
              if n0 + 1 + 1 + 18 + 1 + 18 ≤ n0 + 39 ∧ 0 + 30 + 7 + 448 + 7 + 448 ≤ 940 then
                (F_X5_init σ11 (n0 + 1 + 1 + 18 + 1) (n0 + 1 + 1 + 18) (rfG a1 0)).bind fun o13 =>
                let σ14 := sR o13 th 2 (some (n0 + 1 + 1 + 18))
                if n0 + 1 + 1 + 18 + 1 + 18 = n0 + 39 ∧ 0 + 30 + 7 + 448 + 7 + 448 ≤ 940 then
                  some σ14
                else none
              else none
            else none
          else none
        else none
      else none
    else none
  else none

def F_X4_init (σ : GS) (n0 : Nat) (th : Nat) : Option GS :=
  if kdG (n0) = 1 ∧ n0 + 1 ≤ n0 + 18 ∧ 0 + 12 ≤ 1168 then
    let σ2 := zN σ (n0)
    if n0 + 1 + 16 ≤ n0 + 18 ∧ 0 + 12 + 556 ≤ 1168 then
      (F_X1_init σ2 (n0 + 1) n0).bind fun o3 =>
      let σ4 := sR o3 th 0 (some n0)
      if kdG (n0 + 1 + 16) = 10 ∧ lnG (n0 + 1 + 16) = 600 ∧ n0 + 1 + 16 + 1 ≤ n0 + 18 ∧ 0 + 12 + 556 + 600 ≤ 1168 then
        let σ6 := zN σ4 (n0 + 1 + 16)
        let σ7 := sR σ6 th 1 (some (n0 + 1 + 16))
        let σ8 := sI σ7 th 3 (-1)
        if n0 + 1 + 16 + 1 = n0 + 18 ∧ 0 + 12 + 556 + 600 ≤ 1168 then
          some σ8
        else none
      else none
    else none
  else none

def L_X7_init_81 (n0 : Nat) (th : Nat) : Nat → GS → Nat → Nat → Int32 → Option GS
  | 0, _, _, _, _ => none
  | k + 1, σ, n, m, v1 =>
    if gR σ th 5 = some (rfG th 5) ∧ rfG th 5 < n then
      if (nI (lnG (rfG th 5))) ≤ v1 then
       (
        if kdG (n) = 12 ∧ lnG (n) = 2 ∧ n + 1 ≤ n0 + 327 ∧ m + 2 ≤ 8623 then
          let σ29 := zN σ (n)
          let σ30 := sR σ29 th 6 (some n)
          if gR σ30 th 2 = some (rfG th 2) ∧ rfG th 2 < n + 1 then
            if RRc σ30 (List.range (n + 1)) ∧ (∀ i ∈ List.range (n + 1), i < n + 1) ∧ (rfG th 2) ∈ List.range (n + 1) ∧ n + 1 ≤ n0 + 327 ∧ m + 2 ≤ 8623 then
              (F_X5_begin σ30 (rfG th 2)).bind fun o32 =>
              let σ33 := mrg (List.range (n + 1)) o32 σ30
              if n + 1 = n0 + 327 ∧ m + 2 ≤ 8623 then
                some σ33
              else none
            else none
          else none
        else none
       )
      else
       (
        if gR σ th 5 = some (rfG th 5) ∧ rfG th 5 < n then
          if kdG (n) = 5 ∧ n + 1 ≤ n0 + 327 ∧ m + 7 ≤ 8623 then
            let σ36 := zN σ (n)
            if gR σ36 th 1 = some (rfG th 1) ∧ rfG th 1 < n + 1 then
              if n + 1 + 18 ≤ n0 + 327 ∧ m + 7 + 448 ≤ 8623 then
                (F_X5_init σ36 (n + 1) n (rfG th 1)).bind fun o38 =>
                if inB v1 (lnG (rfG th 5)) then
                  let σ39 := sR o38 (rfG th 5) v1.toNatClampNeg (some n)
                  L_X7_init_81 n0 th k σ39 (n + 1 + 18) (m + 7 + 448) (v1 + 1)
                else none
              else none
            else none
          else none
        else none
       )
    else none
def F_X7_init (σ : GS) (n0 : Nat) (th : Nat) : Option GS :=
  if kdG (n0) = 4 ∧ n0 + 1 ≤ n0 + 327 ∧ 0 + 11 ≤ 8623 then
    let σ2 := zN σ (n0)
    if n0 + 1 + 18 ≤ n0 + 327 ∧ 0 + 11 + 1168 ≤ 8623 then
      (F_X4_init σ2 (n0 + 1) n0).bind fun o3 =>
      let σ4 := sR o3 th 0 (some n0)
      if kdG (n0 + 1 + 18) = 1 ∧ n0 + 1 + 18 + 1 ≤ n0 + 327 ∧ 0 + 11 + 1168 + 12 ≤ 8623 then
        let σ6 := zN σ4 (n0 + 1 + 18)
        if n0 + 1 + 18 + 1 + 16 ≤ n0 + 327 ∧ 0 + 11 + 1168 + 12 + 556 ≤ 8623 then
          (F_X1_init σ6 (n0 + 1 + 18 + 1) (n0 + 1 + 18)).bind fun o7 =>
          let σ8 := sR o7 th 1 (some (n0 + 1 + 18))
          if kdG (n0 + 1 + 18 + 1 + 16) = 5 ∧ n0 + 1 + 18 + 1 + 16 + 1 ≤ n0 + 327 ∧ 0 + 11 + 1168 + 12 + 556 + 7 ≤ 8623 then
            let σ10 := zN σ8 (n0 + 1 + 18 + 1 + 16)
            if gR σ10 th 1 = some (rfG th 1) ∧ rfG th 1 < n0 + 1 + 18 + 1 + 16 + 1 then
              if n0 + 1 + 18 + 1 + 16 + 1 + 18 ≤ n0 + 327 ∧ 0 + 11 + 1168 + 12 + 556 + 7 + 448 ≤ 8623 then
                (F_X5_init σ10 (n0 + 1 + 18 + 1 + 16 + 1) (n0 + 1 + 18 + 1 + 16) (rfG th 1)).bind fun o12 =>
                let σ13 := sR o12 th 2 (some (n0 + 1 + 18 + 1 + 16))
                if kdG (n0 + 1 + 18 + 1 + 16 + 1 + 18) = 2 ∧ n0 + 1 + 18 + 1 + 16 + 1 + 18 + 1 ≤ n0 + 327 ∧ 0 + 11 + 1168 + 12 + 556 + 7 + 448 + 4 ≤ 8623 then
                  let σ15 := zN σ13 (n0 + 1 + 18 + 1 + 16 + 1 + 18)
                  if gR σ15 th 2 = some (rfG th 2) ∧ rfG th 2 < n0 + 1 + 18 + 1 + 16 + 1 + 18 + 1 then
                    if n0 + 1 + 18 + 1 + 16 + 1 + 18 + 1 + 39 ≤ n0 + 327 ∧ 0 + 11 + 1168 + 12 + 556 + 7 + 448 + 4 + 940 ≤ 8623 then
                      (F_X2_init σ15 (n0 + 1 + 18 + 1 + 16 + 1 + 18 + 1) (n0 + 1 + 18 + 1 + 16 + 1 + 18) (rfG th 2)).bind fun o17 =>
                      let σ18 := sR o17 th 3 (some (n0 + 1 + 18 + 1 + 16 + 1 + 18))
                      if kdG (n0 + 1 + 18 + 1 + 16 + 1 + 18 + 1 + 39) = 0 ∧ n0 + 1 + 18 + 1 + 16 + 1 + 18 + 1 + 39 + 1 ≤ n0 + 327 ∧ 0 + 11 + 1168 + 12 + 556 + 7 + 448 + 4 + 940 + 3 ≤ 8623 then
                        let σ20 := zN σ18 (n0 + 1 + 18 + 1 + 16 + 1 + 18 + 1 + 39)
                        if gR σ20 th 1 = some (rfG th 1) ∧ rfG th 1 < n0 + 1 + 18 + 1 + 16 + 1 + 18 + 1 + 39 + 1 then
                          if n0 + 1 + 18 + 1 + 16 + 1 + 18 + 1 + 39 + 1 + 191 ≤ n0 + 327 ∧ 0 + 11 + 1168 + 12 + 556 + 7 + 448 + 4 + 940 + 3 + 4560 ≤ 8623 then
                            (F_X0_init σ20 (n0 + 1 + 18 + 1 + 16 + 1 + 18 + 1 + 39 + 1) (n0 + 1 + 18 + 1 + 16 + 1 + 18 + 1 + 39) (rfG th 1)).bind fun o22 =>
                            let σ23 := sR o22 th 4 (some (n0 + 1 + 18 + 1 + 16 + 1 + 18 + 1 + 39))
                            if kdG (n0 + 1 + 18 + 1 + 16 + 1 + 18 + 1 + 39 + 1 + 191) = 14 ∧ lnG (n0 + 1 + 18 + 1 + 16 + 1 + 18 + 1 + 39 + 1 + 191) = 2 ∧ n0 + 1 + 18 + 1 + 16 + 1 + 18 + 1 + 39 + 1 + 191 + 1 ≤ n0 + 327 ∧ 0 + 11 + 1168 + 12 + 556 + 7 + 448 + 4 + 940 + 3 + 4560 + 2 ≤ 8623 then
                              let σ25 := zN σ23 (n0 + 1 + 18 + 1 + 16 + 1 + 18 + 1 + 39 + 1 + 191)
                              let σ26 := sR σ25 th 5 (some (n0 + 1 + 18 + 1 + 16 + 1 + 18 + 1 + 39 + 1 + 191))
                              L_X7_init_81 n0 th NF σ26 (n0 + 1 + 18 + 1 + 16 + 1 + 18 + 1 + 39 + 1 + 191 + 1) (0 + 11 + 1168 + 12 + 556 + 7 + 448 + 4 + 940 + 3 + 4560 + 2) 0
                            else none
                          else none
                        else none
                      else none
                    else none
                  else none
                else none
              else none
            else none
          else none
        else none
      else none
    else none
  else none

def L_X9_init_50 (n0 : Nat) (th : Nat) : Nat → GS → Nat → Nat → Int32 → Option GS
  | 0, _, _, _, _ => none
  | k + 1, σ, n, m, v1 =>
    if 30 ≤ v1 then
     (
      if n = n0 + 5 ∧ m ≤ 124 then
        some σ
      else none
     )
    else
     (
      if gR σ th 19 = some (rfG th 19) ∧ rfG th 19 < n then
        if inB v1 (lnG (rfG th 19)) then
          let σ18 := sI σ (rfG th 19) (v1 : Int32).toNatClampNeg (-1)
          L_X9_init_50 n0 th k σ18 n m (v1 + 1)
        else none
      else none
     )
def F_X9_init (σ : GS) (n0 : Nat) (th : Nat) : Option GS :=
  let σ1 := sI σ th 8 (-1)
  if kdG (n0) = 11 ∧ lnG (n0) = 4 ∧ n0 + 1 ≤ n0 + 5 ∧ 0 + 4 ≤ 124 then
    let σ3 := zN σ1 (n0)
    let σ4 := sR σ3 th 18 (some n0)
    if kdG (n0 + 1) = 11 ∧ lnG (n0 + 1) = 30 ∧ n0 + 1 + 1 ≤ n0 + 5 ∧ 0 + 4 + 30 ≤ 124 then
      let σ6 := zN σ4 (n0 + 1)
      let σ7 := sR σ6 th 19 (some (n0 + 1))
      if kdG (n0 + 1 + 1) = 11 ∧ lnG (n0 + 1 + 1) = 30 ∧ n0 + 1 + 1 + 1 ≤ n0 + 5 ∧ 0 + 4 + 30 + 30 ≤ 124 then
        let σ9 := zN σ7 (n0 + 1 + 1)
        let σ10 := sR σ9 th 20 (some (n0 + 1 + 1))
        if kdG (n0 + 1 + 1 + 1) = 11 ∧ lnG (n0 + 1 + 1 + 1) = 30 ∧ n0 + 1 + 1 + 1 + 1 ≤ n0 + 5 ∧ 0 + 4 + 30 + 30 + 30 ≤ 124 then
          let σ12 := zN σ10 (n0 + 1 + 1 + 1)
          let σ13 := sR σ12 th 21 (some (n0 + 1 + 1 + 1))
          if kdG (n0 + 1 + 1 + 1 + 1) = 11 ∧ lnG (n0 + 1 + 1 + 1 + 1) = 30 ∧ n0 + 1 + 1 + 1 + 1 + 1 ≤ n0 + 5 ∧ 0 + 4 + 30 + 30 + 30 + 30 ≤ 124 then
            let σ15 := zN σ13 (n0 + 1 + 1 + 1 + 1)
            let σ16 := sR σ15 th 22 (some (n0 + 1 + 1 + 1 + 1))
            L_X9_init_50 n0 th NF σ16 (n0 + 1 + 1 + 1 + 1 + 1) (0 + 4 + 30 + 30 + 30 + 30) 0
          else none
        else none
      else none
    else none
  else none

def F_X8_init (σ : GS) (n0 : Nat) (th : Nat) : Option GS :=
  let σ1 := sI σ th 8 (-1)
  if kdG (n0) = 11 ∧ lnG (n0) = 8 ∧ n0 + 1 ≤ n0 + 30 ∧ 0 + 8 ≤ 620 then
    let σ3 := zN σ1 (n0)
    let σ4 := sR σ3 th 9 (some n0)
    if kdG (n0 + 1) = 11 ∧ lnG (n0 + 1) = 8 ∧ n0 + 1 + 1 ≤ n0 + 30 ∧ 0 + 8 + 8 ≤ 620 then
      let σ6 := zN σ4 (n0 + 1)
      let σ7 := sR σ6 th 10 (some (n0 + 1))
      if kdG (n0 + 1 + 1) = 11 ∧ lnG (n0 + 1 + 1) = 4 ∧ n0 + 1 + 1 + 1 ≤ n0 + 30 ∧ 0 + 8 + 8 + 4 ≤ 620 then
        let σ9 := zN σ7 (n0 + 1 + 1)
        let σ10 := sR σ9 th 11 (some (n0 + 1 + 1))
        if kdG (n0 + 1 + 1 + 1) = 11 ∧ lnG (n0 + 1 + 1 + 1) = 4 ∧ n0 + 1 + 1 + 1 + 1 ≤ n0 + 30 ∧ 0 + 8 + 8 + 4 + 4 ≤ 620 then
          let σ12 := zN σ10 (n0 + 1 + 1 + 1)
          let σ13 := sR σ12 th 12 (some (n0 + 1 + 1 + 1))
          if kdG (n0 + 1 + 1 + 1 + 1) = 11 ∧ lnG (n0 + 1 + 1 + 1 + 1) = 4 ∧ n0 + 1 + 1 + 1 + 1 + 1 ≤ n0 + 30 ∧ 0 + 8 + 8 + 4 + 4 + 4 ≤ 620 then
            let σ15 := zN σ13 (n0 + 1 + 1 + 1 + 1)
            let σ16 := sR σ15 th 13 (some (n0 + 1 + 1 + 1 + 1))
            if kdG (n0 + 1 + 1 + 1 + 1 + 1) = 16 ∧ lnG (n0 + 1 + 1 + 1 + 1 + 1) = 4 ∧ n0 + 1 + 1 + 1 + 1 + 1 + 1 ≤ n0 + 30 ∧ 0 + 8 + 8 + 4 + 4 + 4 + 4 ≤ 620 then
              let σ18 := zN σ16 (n0 + 1 + 1 + 1 + 1 + 1)
              if kdG (n0 + 1 + 1 + 1 + 1 + 1 + 1) = 9 ∧ n0 + 1 + 1 + 1 + 1 + 1 + 1 + 1 ≤ n0 + 30 ∧ 0 + 8 + 8 + 4 + 4 + 4 + 4 + 23 ≤ 620 then
                let σ20 := zN σ18 (n0 + 1 + 1 + 1 + 1 + 1 + 1)
                if n0 + 1 + 1 + 1 + 1 + 1 + 1 + 1 + 5 ≤ n0 + 30 ∧ 0 + 8 + 8 + 4 + 4 + 4 + 4 + 23 + 124 ≤ 620 then
                  (F_X9_init σ20 (n0 + 1 + 1 + 1 + 1 + 1 + 1 + 1) (n0 + 1 + 1 + 1 + 1 + 1 + 1)).bind fun o21 =>
                  if inB 0 (lnG (n0 + 1 + 1 + 1 + 1 + 1)) then
                    let σ22 := sR o21 (n0 + 1 + 1 + 1 + 1 + 1) (0 : Int32).toNatClampNeg (some (n0 + 1 + 1 + 1 + 1 + 1 + 1))
                    if kdG (n0 + 1 + 1 + 1 + 1 + 1 + 1 + 1 + 5) = 9 ∧ n0 + 1 + 1 + 1 + 1 + 1 + 1 + 1 + 5 + 1 ≤ n0 + 30 ∧ 0 + 8 + 8 + 4 + 4 + 4 + 4 + 23 + 124 + 23 ≤ 620 then
                      let σ24 := zN σ22 (n0 + 1 + 1 + 1 + 1 + 1 + 1 + 1 + 5)
                      if n0 + 1 + 1 + 1 + 1 + 1 + 1 + 1 + 5 + 1 + 5 ≤ n0 + 30 ∧ 0 + 8 + 8 + 4 + 4 + 4 + 4 + 23 + 124 + 23 + 124 ≤ 620 then
                        (F_X9_init σ24 (n0 + 1 + 1 + 1 + 1 + 1 + 1 + 1 + 5 + 1) (n0 + 1 + 1 + 1 + 1 + 1 + 1 + 1 + 5)).bind fun o25 =>
                        if inB 1 (lnG (n0 + 1 + 1 + 1 + 1 + 1)) then
                          let σ26 := sR o25 (n0 + 1 + 1 + 1 + 1 + 1) (1 : Int32).toNatClampNeg (some (n0 + 1 + 1 + 1 + 1 + 1 + 1 + 1 + 5))
                          if kdG (n0 + 1 + 1 + 1 + 1 + 1 + 1 + 1 + 5 + 1 + 5) = 9 ∧ n0 + 1 + 1 + 1 + 1 + 1 + 1 + 1 + 5 + 1 + 5 + 1 ≤ n0 + 30 ∧ 0 + 8 + 8 + 4 + 4 + 4 + 4 + 23 + 124 + 23 + 124 + 23 ≤ 620 then
                            let σ28 := zN σ26 (n0 + 1 + 1 + 1 + 1 + 1 + 1 + 1 + 5 + 1 + 5)
                            if n0 + 1 + 1 + 1 + 1 + 1 + 1 + 1 + 5 + 1 + 5 + 1 + 5 ≤ n0 + 30 ∧ 0 + 8 + 8 + 4 + 4 + 4 + 4 + 23 + 124 + 23 + 124 + 23 + 124 ≤ 620 then
                              (F_X9_init σ28 (n0 + 1 + 1 + 1 + 1 + 1 + 1 + 1 + 5 + 1 + 5 + 1) (n0 + 1 + 1 + 1 + 1 + 1 + 1 + 1 + 5 + 1 + 5)).bind fun o29 =>
                              if inB 2 (lnG (n0 + 1 + 1 + 1 + 1 + 1)) then
                                let σ30 := sR o29 (n0 + 1 + 1 + 1 + 1 + 1) (2 : Int32).toNatClampNeg (some (n0 + 1 + 1 + 1 + 1 + 1 + 1 + 1 + 5 + 1 + 5))
                                if kdG (n0 + 1 + 1 + 1 + 1 + 1 + 1 + 1 + 5 + 1 + 5 + 1 + 5) = 9 ∧ n0 + 1 + 1 + 1 + 1 + 1 + 1 + 1 + 5 + 1 + 5 + 1 + 5 + 1 ≤ n0 + 30 ∧ 0 + 8 + 8 + 4 + 4 + 4 + 4 + 23 + 124 + 23 + 124 + 23 + 124 + 23 ≤ 620 then
                                  let σ32 := zN σ30 (n0 + 1 + 1 + 1 + 1 + 1 + 1 + 1 + 5 + 1 + 5 + 1 + 5)
                                  if n0 + 1 + 1 + 1 + 1 + 1 + 1 + 1 + 5 + 1 + 5 + 1 + 5 + 1 + 5 ≤ n0 + 30 ∧ 0 + 8 + 8 + 4 + 4 + 4 + 4 + 23 + 124 + 23 + 124 + 23 + 124 + 23 + 124 ≤ 620 then
                                    (F_X9_init σ32 (n0 + 1 + 1 + 1 + 1 + 1 + 1 + 1 + 5 + 1 + 5 + 1 + 5 + 1) (n0 + 1 + 1 + 1 + 1 + 1 + 1 + 1 + 5 + 1 + 5 + 1 + 5)).bind fun o33 =>
                                    if inB 3 (lnG (n0 + 1 + 1 + 1 + 1 + 1)) then
                                      let σ34 := sR o33 (n0 + 1 + 1 + 1 + 1 + 1) (3 : Int32).toNatClampNeg (some (n0 + 1 + 1 + 1 + 1 + 1 + 1 + 1 + 5 + 1 + 5 + 1 + 5))
                                      let σ35 := sR σ34 th 14 (some (n0 + 1 + 1 + 1 + 1 + 1))
                                      if n0 + 1 + 1 + 1 + 1 + 1 + 1 + 1 + 5 + 1 + 5 + 1 + 5 + 1 + 5 = n0 + 30 ∧ 0 + 8 + 8 + 4 + 4 + 4 + 4 + 23 + 124 + 23 + 124 + 23 + 124 + 23 + 124 ≤ 620 then
                                        some σ35
                                      else none
                                    else none
                                  else none
                                else none
                              else none
                            else none
                          else none
                        else none
                      else none
                    else none
                  else none
                else none
              else none
            else none
          else none
        else none
      else none
    else none
  else none

