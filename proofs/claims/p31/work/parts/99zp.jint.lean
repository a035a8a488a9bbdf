/-! the builder's methods: a number that is appended -/
theorem jneg_toInt {v : Nat} (hv : v < 2 ^ 31) : (-(nI v)).toInt = -(v : Int) := by
  rw [iI_nat, iI_neg, iI_i (by omega) (by omega)]
theorem jdiv0 (v : Nat) (h : v < 10000) : -(nI v) / 100 = -(nI (v / 100)) ∧ -(nI (v / 100)) * 100 - -(nI v) = nI (v % 100) := by
  have e100 : (100 : Int32) = iI 100 := by decide
  constructor
  · refine Int32.toInt_inj.mp ?_
    rw [Int32.toInt_div_of_ne_right _ _ (by decide), jneg_toInt (by omega), jneg_toInt (by omega), show (100 : Int32).toInt = 100 by decide, Int.neg_tdiv, Int.tdiv_eq_ediv_of_nonneg (by omega)]
    omega
  · rw [iI_nat, iI_nat, iI_nat, e100, iI_neg, iI_neg, iI_mul, iI_sub]
    congr 1
    omega
theorem jdg8 : ∀ k, k < 128 → (nI k).toInt8.toInt32 = nI k := by decide +kernel
theorem jneg2 (x : Int32) : - -x = x := Int32.neg_neg
def dgl (v : Nat) : Nat := if v < 10 then 1 else if v < 100 then 2 else if v < 1000 then 3 else 4
theorem m_ss1 {l : Launch} {D : va_G} {cA : Nat → ClassId} {B : BA} {S : Nat → Prop} {σ0 : GS} {v : Nat} (h : v < 10) : MF l yJ6_stringSize_0f7a4 cJ6_stringSize_0f7a4 4 (some .int) 0 0 D cA B S [.int (nI v)] σ0 σ0 (some (.int (nI 1))) := by
  refine MF.of (by decide +kernel) (Nat.le_of_ble_eq_true rfl) ?_
  intro p e s m args below meth c C hr w ls hl
  have hl : lv_has ls 4 [(0, .int (nI v))] := hl
  refine lv_iconst (v := 1) C.1 C.2.1 dJ6_stringSize_0f7a4_0 (by decide) ?_
  refine lv_istore_n (lv' := [(1, .int 1), (0, .int (nI v))]) C.1 C.2.1 dJ6_stringSize_0f7a4_1 rfl hl (by decide) rfl (fun ls hl => ?_)
  refine lv_iload_n C.1 C.2.1 dJ6_stringSize_0f7a4_2 rfl (lv_at hl 1 rfl) ?_
  refine lv_if_lt (tgt := 11) C.1 C.2.1 dJ6_stringSize_0f7a4_3 (by decide) (fun hc => absurd hc (nI_pos (by omega))) (fun _ => ?_)
  refine lv_iconst (v := 0) C.1 C.2.1 dJ6_stringSize_0f7a4_6 (by decide) ?_
  refine lv_istore_n (lv' := [(1, .int 0), (0, .int (nI v))]) C.1 C.2.1 dJ6_stringSize_0f7a4_7 rfl hl (by decide) rfl (fun ls hl => ?_)
  refine lv_iload_n C.1 C.2.1 dJ6_stringSize_0f7a4_8 rfl (lv_at hl 1 rfl) ?_
  refine lv_ineg C.1 C.2.1 dJ6_stringSize_0f7a4_9 ?_
  refine lv_istore_n (lv' := [(0, .int (-(nI v))), (1, .int 0)]) C.1 C.2.1 dJ6_stringSize_0f7a4_10 rfl hl (by decide) rfl (fun ls hl => ?_)
  refine lv_bipush (v := (-10)) C.1 C.2.1 dJ6_stringSize_0f7a4_11 (by decide) ?_
  refine lv_istore_n (lv' := [(2, .int (-10)), (0, .int (-(nI v))), (1, .int 0)]) C.1 C.2.1 dJ6_stringSize_0f7a4_13 rfl hl (by decide) rfl (fun ls hl => ?_)
  refine lv_iconst (v := 1) C.1 C.2.1 dJ6_stringSize_0f7a4_14 (by decide) ?_
  refine lv_istore_n (lv' := [(3, .int 1), (2, .int (-10)), (0, .int (-(nI v))), (1, .int 0)]) C.1 C.2.1 dJ6_stringSize_0f7a4_15 rfl hl (by decide) rfl (fun ls hl => ?_)
  refine lv_iload_n C.1 C.2.1 dJ6_stringSize_0f7a4_16 rfl (lv_at hl 0 rfl) ?_
  refine lv_bipush (v := 10) C.1 C.2.1 dJ6_stringSize_0f7a4_17 (by decide) ?_
  refine lv_icmp_ge (tgt := 42) C.1 C.2.1 dJ6_stringSize_0f7a4_19 (by decide) (fun hc => absurd hc (by decide)) (fun _ => ?_)
  refine lv_iload_n C.1 C.2.1 dJ6_stringSize_0f7a4_22 rfl (lv_at hl 2 rfl) ?_
  refine lv_iload_n C.1 C.2.1 dJ6_stringSize_0f7a4_23 rfl (lv_at hl 1 rfl) ?_
  refine lv_icmp_le (tgt := 31) C.1 C.2.1 dJ6_stringSize_0f7a4_24 (by decide) (fun hc => absurd hc (by rw [Int32.le_iff_toInt_le, jneg_toInt (by omega), show (-10 : Int32).toInt = -10 by decide]; omega)) (fun _ => ?_)
  refine lv_iload_n C.1 C.2.1 dJ6_stringSize_0f7a4_27 rfl (lv_at hl 0 rfl) ?_
  refine lv_iload_n C.1 C.2.1 dJ6_stringSize_0f7a4_28 rfl (lv_at hl 3 rfl) ?_
  refine lv_iadd C.1 C.2.1 dJ6_stringSize_0f7a4_29 ?_
  rw [show (1 : Int32) + 0 = nI 1 by decide]
  exact g_iret C w hr dJ6_stringSize_0f7a4_30
theorem m_ss2 {l : Launch} {D : va_G} {cA : Nat → ClassId} {B : BA} {S : Nat → Prop} {σ0 : GS} {v : Nat} (h0 : 10 ≤ v) (h : v < 100) : MF l yJ6_stringSize_0f7a4 cJ6_stringSize_0f7a4 4 (some .int) 0 0 D cA B S [.int (nI v)] σ0 σ0 (some (.int (nI 2))) := by
  refine MF.of (by decide +kernel) (Nat.le_of_ble_eq_true rfl) ?_
  intro p e s m args below meth c C hr w ls hl
  have hl : lv_has ls 4 [(0, .int (nI v))] := hl
  refine lv_iconst (v := 1) C.1 C.2.1 dJ6_stringSize_0f7a4_0 (by decide) ?_
  refine lv_istore_n (lv' := [(1, .int 1), (0, .int (nI v))]) C.1 C.2.1 dJ6_stringSize_0f7a4_1 rfl hl (by decide) rfl (fun ls hl => ?_)
  refine lv_iload_n C.1 C.2.1 dJ6_stringSize_0f7a4_2 rfl (lv_at hl 1 rfl) ?_
  refine lv_if_lt (tgt := 11) C.1 C.2.1 dJ6_stringSize_0f7a4_3 (by decide) (fun hc => absurd hc (nI_pos (by omega))) (fun _ => ?_)
  refine lv_iconst (v := 0) C.1 C.2.1 dJ6_stringSize_0f7a4_6 (by decide) ?_
  refine lv_istore_n (lv' := [(1, .int 0), (0, .int (nI v))]) C.1 C.2.1 dJ6_stringSize_0f7a4_7 rfl hl (by decide) rfl (fun ls hl => ?_)
  refine lv_iload_n C.1 C.2.1 dJ6_stringSize_0f7a4_8 rfl (lv_at hl 1 rfl) ?_
  refine lv_ineg C.1 C.2.1 dJ6_stringSize_0f7a4_9 ?_
  refine lv_istore_n (lv' := [(0, .int (-(nI v))), (1, .int 0)]) C.1 C.2.1 dJ6_stringSize_0f7a4_10 rfl hl (by decide) rfl (fun ls hl => ?_)
  refine lv_bipush (v := (-10)) C.1 C.2.1 dJ6_stringSize_0f7a4_11 (by decide) ?_
  refine lv_istore_n (lv' := [(2, .int (-10)), (0, .int (-(nI v))), (1, .int 0)]) C.1 C.2.1 dJ6_stringSize_0f7a4_13 rfl hl (by decide) rfl (fun ls hl => ?_)
  refine lv_iconst (v := 1) C.1 C.2.1 dJ6_stringSize_0f7a4_14 (by decide) ?_
  refine lv_istore_n (lv' := [(3, .int 1), (2, .int (-10)), (0, .int (-(nI v))), (1, .int 0)]) C.1 C.2.1 dJ6_stringSize_0f7a4_15 rfl hl (by decide) rfl (fun ls hl => ?_)
  refine lv_iload_n C.1 C.2.1 dJ6_stringSize_0f7a4_16 rfl (lv_at hl 0 rfl) ?_
  refine lv_bipush (v := 10) C.1 C.2.1 dJ6_stringSize_0f7a4_17 (by decide) ?_
  refine lv_icmp_ge (tgt := 42) C.1 C.2.1 dJ6_stringSize_0f7a4_19 (by decide) (fun hc => absurd hc (by decide)) (fun _ => ?_)
  refine lv_iload_n C.1 C.2.1 dJ6_stringSize_0f7a4_22 rfl (lv_at hl 2 rfl) ?_
  refine lv_iload_n C.1 C.2.1 dJ6_stringSize_0f7a4_23 rfl (lv_at hl 1 rfl) ?_
  refine lv_icmp_le (tgt := 31) C.1 C.2.1 dJ6_stringSize_0f7a4_24 (by decide) (fun _ => ?_) (fun hc => absurd (by rw [Int32.le_iff_toInt_le, jneg_toInt (by omega), show (-10 : Int32).toInt = -10 by decide]; omega) hc)
  refine lv_bipush (v := 10) C.1 C.2.1 dJ6_stringSize_0f7a4_31 (by decide) ?_
  refine lv_iload_n C.1 C.2.1 dJ6_stringSize_0f7a4_33 rfl (lv_at hl 1 rfl) ?_
  refine lv_imul C.1 C.2.1 dJ6_stringSize_0f7a4_34 ?_
  rw [show (10 : Int32) * (-10) = -100 by decide]
  refine lv_istore_n (lv' := [(2, .int (-100)), (3, .int 1), (0, .int (-(nI v))), (1, .int 0)]) C.1 C.2.1 dJ6_stringSize_0f7a4_35 rfl hl (by decide) rfl (fun ls hl => ?_)
  refine lv_iinc (k := 1) (v := 2) (lv' := [(3, .int 2), (2, .int (-100)), (0, .int (-(nI v))), (1, .int 0)]) C.1 C.2.1 dJ6_stringSize_0f7a4_36 hl rfl (by decide) (by decide) rfl (fun ls hl => ?_)
  refine lv_goto (tgt := 16) C.1 C.2.1 dJ6_stringSize_0f7a4_39 (by decide) ?_
  refine lv_iload_n C.1 C.2.1 dJ6_stringSize_0f7a4_16 rfl (lv_at hl 0 rfl) ?_
  refine lv_bipush (v := 10) C.1 C.2.1 dJ6_stringSize_0f7a4_17 (by decide) ?_
  refine lv_icmp_ge (tgt := 42) C.1 C.2.1 dJ6_stringSize_0f7a4_19 (by decide) (fun hc => absurd hc (by decide)) (fun _ => ?_)
  refine lv_iload_n C.1 C.2.1 dJ6_stringSize_0f7a4_22 rfl (lv_at hl 2 rfl) ?_
  refine lv_iload_n C.1 C.2.1 dJ6_stringSize_0f7a4_23 rfl (lv_at hl 1 rfl) ?_
  refine lv_icmp_le (tgt := 31) C.1 C.2.1 dJ6_stringSize_0f7a4_24 (by decide) (fun hc => absurd hc (by rw [Int32.le_iff_toInt_le, jneg_toInt (by omega), show (-100 : Int32).toInt = -100 by decide]; omega)) (fun _ => ?_)
  refine lv_iload_n C.1 C.2.1 dJ6_stringSize_0f7a4_27 rfl (lv_at hl 0 rfl) ?_
  refine lv_iload_n C.1 C.2.1 dJ6_stringSize_0f7a4_28 rfl (lv_at hl 3 rfl) ?_
  refine lv_iadd C.1 C.2.1 dJ6_stringSize_0f7a4_29 ?_
  rw [show (2 : Int32) + 0 = nI 2 by decide]
  exact g_iret C w hr dJ6_stringSize_0f7a4_30
theorem m_ss3 {l : Launch} {D : va_G} {cA : Nat → ClassId} {B : BA} {S : Nat → Prop} {σ0 : GS} {v : Nat} (h0 : 100 ≤ v) (h : v < 1000) : MF l yJ6_stringSize_0f7a4 cJ6_stringSize_0f7a4 4 (some .int) 0 0 D cA B S [.int (nI v)] σ0 σ0 (some (.int (nI 3))) := by
  refine MF.of (by decide +kernel) (Nat.le_of_ble_eq_true rfl) ?_
  intro p e s m args below meth c C hr w ls hl
  have hl : lv_has ls 4 [(0, .int (nI v))] := hl
  refine lv_iconst (v := 1) C.1 C.2.1 dJ6_stringSize_0f7a4_0 (by decide) ?_
  refine lv_istore_n (lv' := [(1, .int 1), (0, .int (nI v))]) C.1 C.2.1 dJ6_stringSize_0f7a4_1 rfl hl (by decide) rfl (fun ls hl => ?_)
  refine lv_iload_n C.1 C.2.1 dJ6_stringSize_0f7a4_2 rfl (lv_at hl 1 rfl) ?_
  refine lv_if_lt (tgt := 11) C.1 C.2.1 dJ6_stringSize_0f7a4_3 (by decide) (fun hc => absurd hc (nI_pos (by omega))) (fun _ => ?_)
  refine lv_iconst (v := 0) C.1 C.2.1 dJ6_stringSize_0f7a4_6 (by decide) ?_
  refine lv_istore_n (lv' := [(1, .int 0), (0, .int (nI v))]) C.1 C.2.1 dJ6_stringSize_0f7a4_7 rfl hl (by decide) rfl (fun ls hl => ?_)
  refine lv_iload_n C.1 C.2.1 dJ6_stringSize_0f7a4_8 rfl (lv_at hl 1 rfl) ?_
  refine lv_ineg C.1 C.2.1 dJ6_stringSize_0f7a4_9 ?_
  refine lv_istore_n (lv' := [(0, .int (-(nI v))), (1, .int 0)]) C.1 C.2.1 dJ6_stringSize_0f7a4_10 rfl hl (by decide) rfl (fun ls hl => ?_)
  refine lv_bipush (v := (-10)) C.1 C.2.1 dJ6_stringSize_0f7a4_11 (by decide) ?_
  refine lv_istore_n (lv' := [(2, .int (-10)), (0, .int (-(nI v))), (1, .int 0)]) C.1 C.2.1 dJ6_stringSize_0f7a4_13 rfl hl (by decide) rfl (fun ls hl => ?_)
  refine lv_iconst (v := 1) C.1 C.2.1 dJ6_stringSize_0f7a4_14 (by decide) ?_
  refine lv_istore_n (lv' := [(3, .int 1), (2, .int (-10)), (0, .int (-(nI v))), (1, .int 0)]) C.1 C.2.1 dJ6_stringSize_0f7a4_15 rfl hl (by decide) rfl (fun ls hl => ?_)
  refine lv_iload_n C.1 C.2.1 dJ6_stringSize_0f7a4_16 rfl (lv_at hl 0 rfl) ?_
  refine lv_bipush (v := 10) C.1 C.2.1 dJ6_stringSize_0f7a4_17 (by decide) ?_
  refine lv_icmp_ge (tgt := 42) C.1 C.2.1 dJ6_stringSize_0f7a4_19 (by decide) (fun hc => absurd hc (by decide)) (fun _ => ?_)
  refine lv_iload_n C.1 C.2.1 dJ6_stringSize_0f7a4_22 rfl (lv_at hl 2 rfl) ?_
  refine lv_iload_n C.1 C.2.1 dJ6_stringSize_0f7a4_23 rfl (lv_at hl 1 rfl) ?_
  refine lv_icmp_le (tgt := 31) C.1 C.2.1 dJ6_stringSize_0f7a4_24 (by decide) (fun _ => ?_) (fun hc => absurd (by rw [Int32.le_iff_toInt_le, jneg_toInt (by omega), show (-10 : Int32).toInt = -10 by decide]; omega) hc)
  refine lv_bipush (v := 10) C.1 C.2.1 dJ6_stringSize_0f7a4_31 (by decide) ?_
  refine lv_iload_n C.1 C.2.1 dJ6_stringSize_0f7a4_33 rfl (lv_at hl 1 rfl) ?_
  refine lv_imul C.1 C.2.1 dJ6_stringSize_0f7a4_34 ?_
  rw [show (10 : Int32) * (-10) = -100 by decide]
  refine lv_istore_n (lv' := [(2, .int (-100)), (3, .int 1), (0, .int (-(nI v))), (1, .int 0)]) C.1 C.2.1 dJ6_stringSize_0f7a4_35 rfl hl (by decide) rfl (fun ls hl => ?_)
  refine lv_iinc (k := 1) (v := 2) (lv' := [(3, .int 2), (2, .int (-100)), (0, .int (-(nI v))), (1, .int 0)]) C.1 C.2.1 dJ6_stringSize_0f7a4_36 hl rfl (by decide) (by decide) rfl (fun ls hl => ?_)
  refine lv_goto (tgt := 16) C.1 C.2.1 dJ6_stringSize_0f7a4_39 (by decide) ?_
  refine lv_iload_n C.1 C.2.1 dJ6_stringSize_0f7a4_16 rfl (lv_at hl 0 rfl) ?_
  refine lv_bipush (v := 10) C.1 C.2.1 dJ6_stringSize_0f7a4_17 (by decide) ?_
  refine lv_icmp_ge (tgt := 42) C.1 C.2.1 dJ6_stringSize_0f7a4_19 (by decide) (fun hc => absurd hc (by decide)) (fun _ => ?_)
  refine lv_iload_n C.1 C.2.1 dJ6_stringSize_0f7a4_22 rfl (lv_at hl 2 rfl) ?_
  refine lv_iload_n C.1 C.2.1 dJ6_stringSize_0f7a4_23 rfl (lv_at hl 1 rfl) ?_
  refine lv_icmp_le (tgt := 31) C.1 C.2.1 dJ6_stringSize_0f7a4_24 (by decide) (fun _ => ?_) (fun hc => absurd (by rw [Int32.le_iff_toInt_le, jneg_toInt (by omega), show (-100 : Int32).toInt = -100 by decide]; omega) hc)
  refine lv_bipush (v := 10) C.1 C.2.1 dJ6_stringSize_0f7a4_31 (by decide) ?_
  refine lv_iload_n C.1 C.2.1 dJ6_stringSize_0f7a4_33 rfl (lv_at hl 1 rfl) ?_
  refine lv_imul C.1 C.2.1 dJ6_stringSize_0f7a4_34 ?_
  rw [show (10 : Int32) * (-100) = -1000 by decide]
  refine lv_istore_n (lv' := [(2, .int (-1000)), (3, .int 2), (0, .int (-(nI v))), (1, .int 0)]) C.1 C.2.1 dJ6_stringSize_0f7a4_35 rfl hl (by decide) rfl (fun ls hl => ?_)
  refine lv_iinc (k := 1) (v := 3) (lv' := [(3, .int 3), (2, .int (-1000)), (0, .int (-(nI v))), (1, .int 0)]) C.1 C.2.1 dJ6_stringSize_0f7a4_36 hl rfl (by decide) (by decide) rfl (fun ls hl => ?_)
  refine lv_goto (tgt := 16) C.1 C.2.1 dJ6_stringSize_0f7a4_39 (by decide) ?_
  refine lv_iload_n C.1 C.2.1 dJ6_stringSize_0f7a4_16 rfl (lv_at hl 0 rfl) ?_
  refine lv_bipush (v := 10) C.1 C.2.1 dJ6_stringSize_0f7a4_17 (by decide) ?_
  refine lv_icmp_ge (tgt := 42) C.1 C.2.1 dJ6_stringSize_0f7a4_19 (by decide) (fun hc => absurd hc (by decide)) (fun _ => ?_)
  refine lv_iload_n C.1 C.2.1 dJ6_stringSize_0f7a4_22 rfl (lv_at hl 2 rfl) ?_
  refine lv_iload_n C.1 C.2.1 dJ6_stringSize_0f7a4_23 rfl (lv_at hl 1 rfl) ?_
  refine lv_icmp_le (tgt := 31) C.1 C.2.1 dJ6_stringSize_0f7a4_24 (by decide) (fun hc => absurd hc (by rw [Int32.le_iff_toInt_le, jneg_toInt (by omega), show (-1000 : Int32).toInt = -1000 by decide]; omega)) (fun _ => ?_)
  refine lv_iload_n C.1 C.2.1 dJ6_stringSize_0f7a4_27 rfl (lv_at hl 0 rfl) ?_
  refine lv_iload_n C.1 C.2.1 dJ6_stringSize_0f7a4_28 rfl (lv_at hl 3 rfl) ?_
  refine lv_iadd C.1 C.2.1 dJ6_stringSize_0f7a4_29 ?_
  rw [show (3 : Int32) + 0 = nI 3 by decide]
  exact g_iret C w hr dJ6_stringSize_0f7a4_30
theorem m_ss4 {l : Launch} {D : va_G} {cA : Nat → ClassId} {B : BA} {S : Nat → Prop} {σ0 : GS} {v : Nat} (h0 : 1000 ≤ v) (h : v < 10000) : MF l yJ6_stringSize_0f7a4 cJ6_stringSize_0f7a4 4 (some .int) 0 0 D cA B S [.int (nI v)] σ0 σ0 (some (.int (nI 4))) := by
  refine MF.of (by decide +kernel) (Nat.le_of_ble_eq_true rfl) ?_
  intro p e s m args below meth c C hr w ls hl
  have hl : lv_has ls 4 [(0, .int (nI v))] := hl
  refine lv_iconst (v := 1) C.1 C.2.1 dJ6_stringSize_0f7a4_0 (by decide) ?_
  refine lv_istore_n (lv' := [(1, .int 1), (0, .int (nI v))]) C.1 C.2.1 dJ6_stringSize_0f7a4_1 rfl hl (by decide) rfl (fun ls hl => ?_)
  refine lv_iload_n C.1 C.2.1 dJ6_stringSize_0f7a4_2 rfl (lv_at hl 1 rfl) ?_
  refine lv_if_lt (tgt := 11) C.1 C.2.1 dJ6_stringSize_0f7a4_3 (by decide) (fun hc => absurd hc (nI_pos (by omega))) (fun _ => ?_)
  refine lv_iconst (v := 0) C.1 C.2.1 dJ6_stringSize_0f7a4_6 (by decide) ?_
  refine lv_istore_n (lv' := [(1, .int 0), (0, .int (nI v))]) C.1 C.2.1 dJ6_stringSize_0f7a4_7 rfl hl (by decide) rfl (fun ls hl => ?_)
  refine lv_iload_n C.1 C.2.1 dJ6_stringSize_0f7a4_8 rfl (lv_at hl 1 rfl) ?_
  refine lv_ineg C.1 C.2.1 dJ6_stringSize_0f7a4_9 ?_
  refine lv_istore_n (lv' := [(0, .int (-(nI v))), (1, .int 0)]) C.1 C.2.1 dJ6_stringSize_0f7a4_10 rfl hl (by decide) rfl (fun ls hl => ?_)
  refine lv_bipush (v := (-10)) C.1 C.2.1 dJ6_stringSize_0f7a4_11 (by decide) ?_
  refine lv_istore_n (lv' := [(2, .int (-10)), (0, .int (-(nI v))), (1, .int 0)]) C.1 C.2.1 dJ6_stringSize_0f7a4_13 rfl hl (by decide) rfl (fun ls hl => ?_)
  refine lv_iconst (v := 1) C.1 C.2.1 dJ6_stringSize_0f7a4_14 (by decide) ?_
  refine lv_istore_n (lv' := [(3, .int 1), (2, .int (-10)), (0, .int (-(nI v))), (1, .int 0)]) C.1 C.2.1 dJ6_stringSize_0f7a4_15 rfl hl (by decide) rfl (fun ls hl => ?_)
  refine lv_iload_n C.1 C.2.1 dJ6_stringSize_0f7a4_16 rfl (lv_at hl 0 rfl) ?_
  refine lv_bipush (v := 10) C.1 C.2.1 dJ6_stringSize_0f7a4_17 (by decide) ?_
  refine lv_icmp_ge (tgt := 42) C.1 C.2.1 dJ6_stringSize_0f7a4_19 (by decide) (fun hc => absurd hc (by decide)) (fun _ => ?_)
  refine lv_iload_n C.1 C.2.1 dJ6_stringSize_0f7a4_22 rfl (lv_at hl 2 rfl) ?_
  refine lv_iload_n C.1 C.2.1 dJ6_stringSize_0f7a4_23 rfl (lv_at hl 1 rfl) ?_
  refine lv_icmp_le (tgt := 31) C.1 C.2.1 dJ6_stringSize_0f7a4_24 (by decide) (fun _ => ?_) (fun hc => absurd (by rw [Int32.le_iff_toInt_le, jneg_toInt (by omega), show (-10 : Int32).toInt = -10 by decide]; omega) hc)
  refine lv_bipush (v := 10) C.1 C.2.1 dJ6_stringSize_0f7a4_31 (by decide) ?_
  refine lv_iload_n C.1 C.2.1 dJ6_stringSize_0f7a4_33 rfl (lv_at hl 1 rfl) ?_
  refine lv_imul C.1 C.2.1 dJ6_stringSize_0f7a4_34 ?_
  rw [show (10 : Int32) * (-10) = -100 by decide]
  refine lv_istore_n (lv' := [(2, .int (-100)), (3, .int 1), (0, .int (-(nI v))), (1, .int 0)]) C.1 C.2.1 dJ6_stringSize_0f7a4_35 rfl hl (by decide) rfl (fun ls hl => ?_)
  refine lv_iinc (k := 1) (v := 2) (lv' := [(3, .int 2), (2, .int (-100)), (0, .int (-(nI v))), (1, .int 0)]) C.1 C.2.1 dJ6_stringSize_0f7a4_36 hl rfl (by decide) (by decide) rfl (fun ls hl => ?_)
  refine lv_goto (tgt := 16) C.1 C.2.1 dJ6_stringSize_0f7a4_39 (by decide) ?_
  refine lv_iload_n C.1 C.2.1 dJ6_stringSize_0f7a4_16 rfl (lv_at hl 0 rfl) ?_
  refine lv_bipush (v := 10) C.1 C.2.1 dJ6_stringSize_0f7a4_17 (by decide) ?_
  refine lv_icmp_ge (tgt := 42) C.1 C.2.1 dJ6_stringSize_0f7a4_19 (by decide) (fun hc => absurd hc (by decide)) (fun _ => ?_)
  refine lv_iload_n C.1 C.2.1 dJ6_stringSize_0f7a4_22 rfl (lv_at hl 2 rfl) ?_
  refine lv_iload_n C.1 C.2.1 dJ6_stringSize_0f7a4_23 rfl (lv_at hl 1 rfl) ?_
  refine lv_icmp_le (tgt := 31) C.1 C.2.1 dJ6_stringSize_0f7a4_24 (by decide) (fun _ => ?_) (fun hc => absurd (by rw [Int32.le_iff_toInt_le, jneg_toInt (by omega), show (-100 : Int32).toInt = -100 by decide]; omega) hc)
  refine lv_bipush (v := 10) C.1 C.2.1 dJ6_stringSize_0f7a4_31 (by decide) ?_
  refine lv_iload_n C.1 C.2.1 dJ6_stringSize_0f7a4_33 rfl (lv_at hl 1 rfl) ?_
  refine lv_imul C.1 C.2.1 dJ6_stringSize_0f7a4_34 ?_
  rw [show (10 : Int32) * (-100) = -1000 by decide]
  refine lv_istore_n (lv' := [(2, .int (-1000)), (3, .int 2), (0, .int (-(nI v))), (1, .int 0)]) C.1 C.2.1 dJ6_stringSize_0f7a4_35 rfl hl (by decide) rfl (fun ls hl => ?_)
  refine lv_iinc (k := 1) (v := 3) (lv' := [(3, .int 3), (2, .int (-1000)), (0, .int (-(nI v))), (1, .int 0)]) C.1 C.2.1 dJ6_stringSize_0f7a4_36 hl rfl (by decide) (by decide) rfl (fun ls hl => ?_)
  refine lv_goto (tgt := 16) C.1 C.2.1 dJ6_stringSize_0f7a4_39 (by decide) ?_
  refine lv_iload_n C.1 C.2.1 dJ6_stringSize_0f7a4_16 rfl (lv_at hl 0 rfl) ?_
  refine lv_bipush (v := 10) C.1 C.2.1 dJ6_stringSize_0f7a4_17 (by decide) ?_
  refine lv_icmp_ge (tgt := 42) C.1 C.2.1 dJ6_stringSize_0f7a4_19 (by decide) (fun hc => absurd hc (by decide)) (fun _ => ?_)
  refine lv_iload_n C.1 C.2.1 dJ6_stringSize_0f7a4_22 rfl (lv_at hl 2 rfl) ?_
  refine lv_iload_n C.1 C.2.1 dJ6_stringSize_0f7a4_23 rfl (lv_at hl 1 rfl) ?_
  refine lv_icmp_le (tgt := 31) C.1 C.2.1 dJ6_stringSize_0f7a4_24 (by decide) (fun _ => ?_) (fun hc => absurd (by rw [Int32.le_iff_toInt_le, jneg_toInt (by omega), show (-1000 : Int32).toInt = -1000 by decide]; omega) hc)
  refine lv_bipush (v := 10) C.1 C.2.1 dJ6_stringSize_0f7a4_31 (by decide) ?_
  refine lv_iload_n C.1 C.2.1 dJ6_stringSize_0f7a4_33 rfl (lv_at hl 1 rfl) ?_
  refine lv_imul C.1 C.2.1 dJ6_stringSize_0f7a4_34 ?_
  rw [show (10 : Int32) * (-1000) = -10000 by decide]
  refine lv_istore_n (lv' := [(2, .int (-10000)), (3, .int 3), (0, .int (-(nI v))), (1, .int 0)]) C.1 C.2.1 dJ6_stringSize_0f7a4_35 rfl hl (by decide) rfl (fun ls hl => ?_)
  refine lv_iinc (k := 1) (v := 4) (lv' := [(3, .int 4), (2, .int (-10000)), (0, .int (-(nI v))), (1, .int 0)]) C.1 C.2.1 dJ6_stringSize_0f7a4_36 hl rfl (by decide) (by decide) rfl (fun ls hl => ?_)
  refine lv_goto (tgt := 16) C.1 C.2.1 dJ6_stringSize_0f7a4_39 (by decide) ?_
  refine lv_iload_n C.1 C.2.1 dJ6_stringSize_0f7a4_16 rfl (lv_at hl 0 rfl) ?_
  refine lv_bipush (v := 10) C.1 C.2.1 dJ6_stringSize_0f7a4_17 (by decide) ?_
  refine lv_icmp_ge (tgt := 42) C.1 C.2.1 dJ6_stringSize_0f7a4_19 (by decide) (fun hc => absurd hc (by decide)) (fun _ => ?_)
  refine lv_iload_n C.1 C.2.1 dJ6_stringSize_0f7a4_22 rfl (lv_at hl 2 rfl) ?_
  refine lv_iload_n C.1 C.2.1 dJ6_stringSize_0f7a4_23 rfl (lv_at hl 1 rfl) ?_
  refine lv_icmp_le (tgt := 31) C.1 C.2.1 dJ6_stringSize_0f7a4_24 (by decide) (fun hc => absurd hc (by rw [Int32.le_iff_toInt_le, jneg_toInt (by omega), show (-10000 : Int32).toInt = -10000 by decide]; omega)) (fun _ => ?_)
  refine lv_iload_n C.1 C.2.1 dJ6_stringSize_0f7a4_27 rfl (lv_at hl 0 rfl) ?_
  refine lv_iload_n C.1 C.2.1 dJ6_stringSize_0f7a4_28 rfl (lv_at hl 3 rfl) ?_
  refine lv_iadd C.1 C.2.1 dJ6_stringSize_0f7a4_29 ?_
  rw [show (4 : Int32) + 0 = nI 4 by decide]
  exact g_iret C w hr dJ6_stringSize_0f7a4_30
theorem m_stringSize {l : Launch} {D : va_G} {cA : Nat → ClassId} {B : BA} {S : Nat → Prop} {σ0 : GS} {v : Nat} (h : v < 10000) : MF l yJ6_stringSize_0f7a4 cJ6_stringSize_0f7a4 4 (some .int) 0 0 D cA B S [.int (nI v)] σ0 σ0 (some (.int (nI (dgl v)))) := by
  unfold dgl
  split
  · exact m_ss1 (by omega)
  · split
    · exact m_ss2 (by omega) (by omega)
    · split
      · exact m_ss3 (by omega) (by omega)
      · exact m_ss4 (by omega) h
theorem m_gc1 {l : Launch} {D DJ : va_G} {cA : Nat → ClassId} {B : BA} {A : Nat → Prop} {b a N : Nat} {f : Nat → Int32} {n : Int32} {v t : Nat} (h : v < 10) (h1 : t + 1 ≤ N) (h2 : N ≤ 286) : MJg l yJ6_getChars_ba4f3 cJ6_getChars_ba4f3 7 (some .int) 0 0 0 0 D DJ cA B A b a N n f [.int (nI v), .int (nI (t + 1)), .ref a] (some (.int (nI t))) (fun a' N' n' f' => a = a' ∧ N = N' ∧ n = n' ∧ (∀ j, j < t → f' j = f j) ∧ ∀ j, j < 1 → f' (t + j) = iI ([48 + (v : Int)].getD j 0)) := by
  refine MJg.of (by decide +kernel) (Nat.le_of_ble_eq_true rfl) ?_
  intro p e s m args below meth c C hr hname w ls hl
  have hl : lv_has ls 7 [(0, .int (nI v)), (1, .int (nI (t + 1))), (2, .ref a)] := hl
  obtain ⟨a1, a2, z1, z2, z3, z4⟩ := w.2.2.2.2.2.2.2
  refine lv_iload_n C.1 C.2.1 dJ6_getChars_ba4f3_0 rfl (lv_at hl 1 rfl) ?_
  refine lv_istore (lv' := [(5, .int (nI (t + 1))), (0, .int (nI v)), (1, .int (nI (t + 1))), (2, .ref a)]) C.1 C.2.1 dJ6_getChars_ba4f3_1 hl (by decide) rfl (fun ls hl => ?_)
  refine lv_iload_n C.1 C.2.1 dJ6_getChars_ba4f3_3 rfl (lv_at hl 1 rfl) ?_
  refine lv_if_ge (tgt := 11) C.1 C.2.1 dJ6_getChars_ba4f3_4 (by decide) (fun _ => ?_) (fun hc => absurd (nI_pos' (by omega)) hc)
  refine lv_iconst (v := 0) C.1 C.2.1 dJ6_getChars_ba4f3_11 (by decide) ?_
  refine lv_istore (lv' := [(6, .int 0), (5, .int (nI (t + 1))), (0, .int (nI v)), (1, .int (nI (t + 1))), (2, .ref a)]) C.1 C.2.1 dJ6_getChars_ba4f3_12 hl (by decide) rfl (fun ls hl => ?_)
  refine lv_iload C.1 C.2.1 dJ6_getChars_ba4f3_14 (lv_at hl 0 rfl) ?_
  refine lv_if_ne (tgt := 22) C.1 C.2.1 dJ6_getChars_ba4f3_16 (by decide) (fun hc => absurd (rfl) hc) (fun _ => ?_)
  refine lv_iload_n C.1 C.2.1 dJ6_getChars_ba4f3_19 rfl (lv_at hl 2 rfl) ?_
  refine lv_ineg C.1 C.2.1 dJ6_getChars_ba4f3_20 ?_
  refine lv_istore_n (lv' := [(0, .int (-(nI v))), (6, .int 0), (5, .int (nI (t + 1))), (1, .int (nI (t + 1))), (2, .ref a)]) C.1 C.2.1 dJ6_getChars_ba4f3_21 rfl hl (by decide) rfl (fun ls hl => ?_)
  refine lv_iload_n C.1 C.2.1 dJ6_getChars_ba4f3_22 rfl (lv_at hl 0 rfl) ?_
  refine lv_bipush (v := (-100)) C.1 C.2.1 dJ6_getChars_ba4f3_23 (by decide) ?_
  refine lv_icmp_gt (tgt := 72) C.1 C.2.1 dJ6_getChars_ba4f3_25 (by decide) (fun _ => ?_) (fun hc => absurd (by rw [Int32.lt_iff_toInt_lt, jneg_toInt (by omega), show (-100 : Int32).toInt = -100 by decide]; omega) hc)
  refine lv_aload_n C.1 C.2.1 dJ6_getChars_ba4f3_72 rfl (lv_at hl 4 rfl) ?_
  refine lv_iinc (k := 2) (v := nI (t + 0)) (lv' := [(5, .int (nI (t + 0))), (0, .int (-(nI v))), (6, .int 0), (1, .int (nI (t + 1))), (2, .ref a)]) C.1 C.2.1 dJ6_getChars_ba4f3_73 hl rfl (pk_m1 (t + 0)) (by decide) rfl (fun ls hl => ?_)
  refine lv_iload C.1 C.2.1 dJ6_getChars_ba4f3_76 (lv_at hl 0 rfl) ?_
  refine va_gets C.1 C.2.1 z1 w.1.wide C.2.2.2.1 (C.2.2.2.2.1 _ wj_811) (fun _ h => h) dJ6_getChars_ba4f3_78 ?_
  refine lv_iload_n C.1 C.2.1 dJ6_getChars_ba4f3_81 rfl (lv_at hl 1 rfl) ?_
  refine lv_ineg C.1 C.2.1 dJ6_getChars_ba4f3_82 ?_
  rw [jneg2]
  refine va_tb (v := .int (nI (48 + v % 10))) C.1 C.2.1 z2 w.1.wide (vp_in_nI (by omega) (by omega)) (by rw [nI_clamp (by omega)]) dJ6_getChars_ba4f3_83 ?_
  refine j_bast C w (vp_in_nI (by omega) (by omega)) dJ6_getChars_ba4f3_84 (fun H locs w => ?_)
  rw [nI_clamp (by omega), jdg8 _ (by omega)] at w
  refine lv_iload_n C.1 C.2.1 dJ6_getChars_ba4f3_85 rfl (lv_at hl 1 rfl) ?_
  refine lv_bipush (v := (-9)) C.1 C.2.1 dJ6_getChars_ba4f3_86 (by decide) ?_
  refine lv_icmp_ge (tgt := 104) C.1 C.2.1 dJ6_getChars_ba4f3_88 (by decide) (fun _ => ?_) (fun hc => absurd (by rw [Int32.le_iff_toInt_le, jneg_toInt (by omega), show (-9 : Int32).toInt = -9 by decide]; omega) hc)
  refine lv_iload C.1 C.2.1 dJ6_getChars_ba4f3_104 (lv_at hl 2 rfl) ?_
  refine lv_if_eq (tgt := 118) C.1 C.2.1 dJ6_getChars_ba4f3_106 (by decide) (fun _ => ?_) (fun hc => absurd (rfl) hc)
  refine lv_iload C.1 C.2.1 dJ6_getChars_ba4f3_118 (lv_at hl 0 rfl) ?_
  refine j_iret C w ⟨rfl, rfl, rfl, fun j hj => ?_, fun j hj => ?_⟩ hr dJ6_getChars_ba4f3_120
  · unfold upd
    rw [if_neg (show ¬ j = t + 0 by omega)]
  · obtain rfl : j = 0 := by omega
    unfold upd
    exact (if_pos rfl).trans ((iI_nat _).trans (congrArg iI (show ((48 + v % 10 : Nat) : Int) = 48 + (v : Int) by omega)))
theorem m_gc2 {l : Launch} {D DJ : va_G} {cA : Nat → ClassId} {B : BA} {A : Nat → Prop} {b a N : Nat} {f : Nat → Int32} {n : Int32} {v t : Nat} (h0 : 10 ≤ v) (h : v < 100) (h1 : t + 2 ≤ N) (h2 : N ≤ 286) : MJg l yJ6_getChars_ba4f3 cJ6_getChars_ba4f3 7 (some .int) 0 0 0 0 D DJ cA B A b a N n f [.int (nI v), .int (nI (t + 2)), .ref a] (some (.int (nI t))) (fun a' N' n' f' => a = a' ∧ N = N' ∧ n = n' ∧ (∀ j, j < t → f' j = f j) ∧ ∀ j, j < 2 → f' (t + j) = iI ([48 + (v : Int) / 10, 48 + (v : Int) % 10].getD j 0)) := by
  refine MJg.of (by decide +kernel) (Nat.le_of_ble_eq_true rfl) ?_
  intro p e s m args below meth c C hr hname w ls hl
  have hl : lv_has ls 7 [(0, .int (nI v)), (1, .int (nI (t + 2))), (2, .ref a)] := hl
  obtain ⟨a1, a2, z1, z2, z3, z4⟩ := w.2.2.2.2.2.2.2
  refine lv_iload_n C.1 C.2.1 dJ6_getChars_ba4f3_0 rfl (lv_at hl 1 rfl) ?_
  refine lv_istore (lv' := [(5, .int (nI (t + 2))), (0, .int (nI v)), (1, .int (nI (t + 2))), (2, .ref a)]) C.1 C.2.1 dJ6_getChars_ba4f3_1 hl (by decide) rfl (fun ls hl => ?_)
  refine lv_iload_n C.1 C.2.1 dJ6_getChars_ba4f3_3 rfl (lv_at hl 1 rfl) ?_
  refine lv_if_ge (tgt := 11) C.1 C.2.1 dJ6_getChars_ba4f3_4 (by decide) (fun _ => ?_) (fun hc => absurd (nI_pos' (by omega)) hc)
  refine lv_iconst (v := 0) C.1 C.2.1 dJ6_getChars_ba4f3_11 (by decide) ?_
  refine lv_istore (lv' := [(6, .int 0), (5, .int (nI (t + 2))), (0, .int (nI v)), (1, .int (nI (t + 2))), (2, .ref a)]) C.1 C.2.1 dJ6_getChars_ba4f3_12 hl (by decide) rfl (fun ls hl => ?_)
  refine lv_iload C.1 C.2.1 dJ6_getChars_ba4f3_14 (lv_at hl 0 rfl) ?_
  refine lv_if_ne (tgt := 22) C.1 C.2.1 dJ6_getChars_ba4f3_16 (by decide) (fun hc => absurd (rfl) hc) (fun _ => ?_)
  refine lv_iload_n C.1 C.2.1 dJ6_getChars_ba4f3_19 rfl (lv_at hl 2 rfl) ?_
  refine lv_ineg C.1 C.2.1 dJ6_getChars_ba4f3_20 ?_
  refine lv_istore_n (lv' := [(0, .int (-(nI v))), (6, .int 0), (5, .int (nI (t + 2))), (1, .int (nI (t + 2))), (2, .ref a)]) C.1 C.2.1 dJ6_getChars_ba4f3_21 rfl hl (by decide) rfl (fun ls hl => ?_)
  refine lv_iload_n C.1 C.2.1 dJ6_getChars_ba4f3_22 rfl (lv_at hl 0 rfl) ?_
  refine lv_bipush (v := (-100)) C.1 C.2.1 dJ6_getChars_ba4f3_23 (by decide) ?_
  refine lv_icmp_gt (tgt := 72) C.1 C.2.1 dJ6_getChars_ba4f3_25 (by decide) (fun _ => ?_) (fun hc => absurd (by rw [Int32.lt_iff_toInt_lt, jneg_toInt (by omega), show (-100 : Int32).toInt = -100 by decide]; omega) hc)
  refine lv_aload_n C.1 C.2.1 dJ6_getChars_ba4f3_72 rfl (lv_at hl 4 rfl) ?_
  refine lv_iinc (k := 2) (v := nI (t + 1)) (lv' := [(5, .int (nI (t + 1))), (0, .int (-(nI v))), (6, .int 0), (1, .int (nI (t + 2))), (2, .ref a)]) C.1 C.2.1 dJ6_getChars_ba4f3_73 hl rfl (pk_m1 (t + 1)) (by decide) rfl (fun ls hl => ?_)
  refine lv_iload C.1 C.2.1 dJ6_getChars_ba4f3_76 (lv_at hl 0 rfl) ?_
  refine va_gets C.1 C.2.1 z1 w.1.wide C.2.2.2.1 (C.2.2.2.2.1 _ wj_811) (fun _ h => h) dJ6_getChars_ba4f3_78 ?_
  refine lv_iload_n C.1 C.2.1 dJ6_getChars_ba4f3_81 rfl (lv_at hl 1 rfl) ?_
  refine lv_ineg C.1 C.2.1 dJ6_getChars_ba4f3_82 ?_
  rw [jneg2]
  refine va_tb (v := .int (nI (48 + v % 10))) C.1 C.2.1 z2 w.1.wide (vp_in_nI (by omega) (by omega)) (by rw [nI_clamp (by omega)]) dJ6_getChars_ba4f3_83 ?_
  refine j_bast C w (vp_in_nI (by omega) (by omega)) dJ6_getChars_ba4f3_84 (fun H locs w => ?_)
  rw [nI_clamp (by omega), jdg8 _ (by omega)] at w
  refine lv_iload_n C.1 C.2.1 dJ6_getChars_ba4f3_85 rfl (lv_at hl 1 rfl) ?_
  refine lv_bipush (v := (-9)) C.1 C.2.1 dJ6_getChars_ba4f3_86 (by decide) ?_
  refine lv_icmp_ge (tgt := 104) C.1 C.2.1 dJ6_getChars_ba4f3_88 (by decide) (fun hc => absurd hc (by rw [Int32.le_iff_toInt_le, jneg_toInt (by omega), show (-9 : Int32).toInt = -9 by decide]; omega)) (fun _ => ?_)
  refine lv_aload_n C.1 C.2.1 dJ6_getChars_ba4f3_91 rfl (lv_at hl 4 rfl) ?_
  refine lv_iinc (k := 0) (v := nI (t + 0)) (lv' := [(5, .int (nI (t + 0))), (0, .int (-(nI v))), (6, .int 0), (1, .int (nI (t + 2))), (2, .ref a)]) C.1 C.2.1 dJ6_getChars_ba4f3_92 hl rfl (pk_m1 (t + 0)) (by decide) rfl (fun ls hl => ?_)
  refine lv_iload C.1 C.2.1 dJ6_getChars_ba4f3_95 (lv_at hl 0 rfl) ?_
  refine va_gets C.1 C.2.1 z3 w.1.wide C.2.2.2.1 (C.2.2.2.2.1 _ wj_813) (fun _ h => h) dJ6_getChars_ba4f3_97 ?_
  refine lv_iload_n C.1 C.2.1 dJ6_getChars_ba4f3_100 rfl (lv_at hl 1 rfl) ?_
  refine lv_ineg C.1 C.2.1 dJ6_getChars_ba4f3_101 ?_
  rw [jneg2]
  refine va_tb (v := .int (nI (48 + v / 10))) C.1 C.2.1 z4 w.1.wide (vp_in_nI (by omega) (by omega)) (by rw [nI_clamp (by omega)]) dJ6_getChars_ba4f3_102 ?_
  refine j_bast C w (vp_in_nI (by omega) (by omega)) dJ6_getChars_ba4f3_103 (fun H locs w => ?_)
  rw [nI_clamp (by omega), jdg8 _ (by omega)] at w
  refine lv_iload C.1 C.2.1 dJ6_getChars_ba4f3_104 (lv_at hl 2 rfl) ?_
  refine lv_if_eq (tgt := 118) C.1 C.2.1 dJ6_getChars_ba4f3_106 (by decide) (fun _ => ?_) (fun hc => absurd (rfl) hc)
  refine lv_iload C.1 C.2.1 dJ6_getChars_ba4f3_118 (lv_at hl 0 rfl) ?_
  refine j_iret C w ⟨rfl, rfl, rfl, fun j hj => ?_, fun j hj => ?_⟩ hr dJ6_getChars_ba4f3_120
  · unfold upd
    rw [if_neg (show ¬ j = t + 0 by omega)]
    rw [if_neg (show ¬ j = t + 1 by omega)]
  · rcases (show j = 0 ∨ j = 1 by omega) with rfl | rfl
    · unfold upd
      exact (if_pos rfl).trans ((iI_nat _).trans (congrArg iI (show ((48 + v / 10 : Nat) : Int) = 48 + (v : Int) / 10 by omega)))
    · unfold upd
      rw [if_neg (show ¬ t + 1 = t + 0 by omega)]
      exact (if_pos rfl).trans ((iI_nat _).trans (congrArg iI (show ((48 + v % 10 : Nat) : Int) = 48 + (v : Int) % 10 by omega)))
theorem m_gc3 {l : Launch} {D DJ : va_G} {cA : Nat → ClassId} {B : BA} {A : Nat → Prop} {b a N : Nat} {f : Nat → Int32} {n : Int32} {v t : Nat} (h0 : 100 ≤ v) (h : v < 1000) (h1 : t + 3 ≤ N) (h2 : N ≤ 286) : MJg l yJ6_getChars_ba4f3 cJ6_getChars_ba4f3 7 (some .int) 0 0 0 0 D DJ cA B A b a N n f [.int (nI v), .int (nI (t + 3)), .ref a] (some (.int (nI t))) (fun a' N' n' f' => a = a' ∧ N = N' ∧ n = n' ∧ (∀ j, j < t → f' j = f j) ∧ ∀ j, j < 3 → f' (t + j) = iI ([48 + (v : Int) / 100, 48 + (v : Int) / 10 % 10, 48 + (v : Int) % 10].getD j 0)) := by
  refine MJg.of (by decide +kernel) (Nat.le_of_ble_eq_true rfl) ?_
  intro p e s m args below meth c C hr hname w ls hl
  have hl : lv_has ls 7 [(0, .int (nI v)), (1, .int (nI (t + 3))), (2, .ref a)] := hl
  obtain ⟨a1, a2, z1, z2, z3, z4⟩ := w.2.2.2.2.2.2.2
  refine lv_iload_n C.1 C.2.1 dJ6_getChars_ba4f3_0 rfl (lv_at hl 1 rfl) ?_
  refine lv_istore (lv' := [(5, .int (nI (t + 3))), (0, .int (nI v)), (1, .int (nI (t + 3))), (2, .ref a)]) C.1 C.2.1 dJ6_getChars_ba4f3_1 hl (by decide) rfl (fun ls hl => ?_)
  refine lv_iload_n C.1 C.2.1 dJ6_getChars_ba4f3_3 rfl (lv_at hl 1 rfl) ?_
  refine lv_if_ge (tgt := 11) C.1 C.2.1 dJ6_getChars_ba4f3_4 (by decide) (fun _ => ?_) (fun hc => absurd (nI_pos' (by omega)) hc)
  refine lv_iconst (v := 0) C.1 C.2.1 dJ6_getChars_ba4f3_11 (by decide) ?_
  refine lv_istore (lv' := [(6, .int 0), (5, .int (nI (t + 3))), (0, .int (nI v)), (1, .int (nI (t + 3))), (2, .ref a)]) C.1 C.2.1 dJ6_getChars_ba4f3_12 hl (by decide) rfl (fun ls hl => ?_)
  refine lv_iload C.1 C.2.1 dJ6_getChars_ba4f3_14 (lv_at hl 0 rfl) ?_
  refine lv_if_ne (tgt := 22) C.1 C.2.1 dJ6_getChars_ba4f3_16 (by decide) (fun hc => absurd (rfl) hc) (fun _ => ?_)
  refine lv_iload_n C.1 C.2.1 dJ6_getChars_ba4f3_19 rfl (lv_at hl 2 rfl) ?_
  refine lv_ineg C.1 C.2.1 dJ6_getChars_ba4f3_20 ?_
  refine lv_istore_n (lv' := [(0, .int (-(nI v))), (6, .int 0), (5, .int (nI (t + 3))), (1, .int (nI (t + 3))), (2, .ref a)]) C.1 C.2.1 dJ6_getChars_ba4f3_21 rfl hl (by decide) rfl (fun ls hl => ?_)
  refine lv_iload_n C.1 C.2.1 dJ6_getChars_ba4f3_22 rfl (lv_at hl 0 rfl) ?_
  refine lv_bipush (v := (-100)) C.1 C.2.1 dJ6_getChars_ba4f3_23 (by decide) ?_
  refine lv_icmp_gt (tgt := 72) C.1 C.2.1 dJ6_getChars_ba4f3_25 (by decide) (fun hc => absurd hc (by rw [Int32.lt_iff_toInt_lt, jneg_toInt (by omega), show (-100 : Int32).toInt = -100 by decide]; omega)) (fun _ => ?_)
  refine lv_iload_n C.1 C.2.1 dJ6_getChars_ba4f3_28 rfl (lv_at hl 0 rfl) ?_
  refine lv_bipush (v := 100) C.1 C.2.1 dJ6_getChars_ba4f3_29 (by decide) ?_
  refine lv_idiv C.1 C.2.1 dJ6_getChars_ba4f3_31 (by decide) ?_
  rw [(jdiv0 v (by omega)).1]
  refine lv_istore_n (lv' := [(3, .int (-(nI (v / 100)))), (0, .int (-(nI v))), (6, .int 0), (5, .int (nI (t + 3))), (1, .int (nI (t + 3))), (2, .ref a)]) C.1 C.2.1 dJ6_getChars_ba4f3_32 rfl hl (by decide) rfl (fun ls hl => ?_)
  refine lv_iload_n C.1 C.2.1 dJ6_getChars_ba4f3_33 rfl (lv_at hl 0 rfl) ?_
  refine lv_bipush (v := 100) C.1 C.2.1 dJ6_getChars_ba4f3_34 (by decide) ?_
  refine lv_imul C.1 C.2.1 dJ6_getChars_ba4f3_36 ?_
  refine lv_iload_n C.1 C.2.1 dJ6_getChars_ba4f3_37 rfl (lv_at hl 1 rfl) ?_
  refine lv_isub C.1 C.2.1 dJ6_getChars_ba4f3_38 ?_
  rw [(jdiv0 v (by omega)).2]
  refine lv_istore (lv' := [(4, .int (nI (v % 100))), (3, .int (-(nI (v / 100)))), (0, .int (-(nI v))), (6, .int 0), (5, .int (nI (t + 3))), (1, .int (nI (t + 3))), (2, .ref a)]) C.1 C.2.1 dJ6_getChars_ba4f3_39 hl (by decide) rfl (fun ls hl => ?_)
  refine lv_iload_n C.1 C.2.1 dJ6_getChars_ba4f3_41 rfl (lv_at hl 1 rfl) ?_
  refine lv_istore_n (lv' := [(0, .int (-(nI (v / 100)))), (4, .int (nI (v % 100))), (3, .int (-(nI (v / 100)))), (6, .int 0), (5, .int (nI (t + 3))), (1, .int (nI (t + 3))), (2, .ref a)]) C.1 C.2.1 dJ6_getChars_ba4f3_42 rfl hl (by decide) rfl (fun ls hl => ?_)
  refine lv_aload_n C.1 C.2.1 dJ6_getChars_ba4f3_43 rfl (lv_at hl 6 rfl) ?_
  refine lv_iinc (k := 4) (v := nI (t + 2)) (lv' := [(5, .int (nI (t + 2))), (0, .int (-(nI (v / 100)))), (4, .int (nI (v % 100))), (3, .int (-(nI (v / 100)))), (6, .int 0), (1, .int (nI (t + 3))), (2, .ref a)]) C.1 C.2.1 dJ6_getChars_ba4f3_44 hl rfl (pk_m1 (t + 2)) (by decide) rfl (fun ls hl => ?_)
  refine lv_iload C.1 C.2.1 dJ6_getChars_ba4f3_47 (lv_at hl 0 rfl) ?_
  refine va_gets C.1 C.2.1 z1 w.1.wide C.2.2.2.1 (C.2.2.2.2.1 _ wj_811) (fun _ h => h) dJ6_getChars_ba4f3_49 ?_
  refine lv_iload C.1 C.2.1 dJ6_getChars_ba4f3_52 (lv_at hl 2 rfl) ?_
  refine va_tb (v := .int (nI (48 + v % 100 % 10))) C.1 C.2.1 z2 w.1.wide (vp_in_nI (by omega) (by omega)) (by rw [nI_clamp (by omega)]) dJ6_getChars_ba4f3_54 ?_
  refine j_bast C w (vp_in_nI (by omega) (by omega)) dJ6_getChars_ba4f3_55 (fun H locs w => ?_)
  rw [nI_clamp (by omega), jdg8 _ (by omega)] at w
  refine lv_aload_n C.1 C.2.1 dJ6_getChars_ba4f3_56 rfl (lv_at hl 6 rfl) ?_
  refine lv_iinc (k := 0) (v := nI (t + 1)) (lv' := [(5, .int (nI (t + 1))), (0, .int (-(nI (v / 100)))), (4, .int (nI (v % 100))), (3, .int (-(nI (v / 100)))), (6, .int 0), (1, .int (nI (t + 3))), (2, .ref a)]) C.1 C.2.1 dJ6_getChars_ba4f3_57 hl rfl (pk_m1 (t + 1)) (by decide) rfl (fun ls hl => ?_)
  refine lv_iload C.1 C.2.1 dJ6_getChars_ba4f3_60 (lv_at hl 0 rfl) ?_
  refine va_gets C.1 C.2.1 z3 w.1.wide C.2.2.2.1 (C.2.2.2.2.1 _ wj_813) (fun _ h => h) dJ6_getChars_ba4f3_62 ?_
  refine lv_iload C.1 C.2.1 dJ6_getChars_ba4f3_65 (lv_at hl 2 rfl) ?_
  refine va_tb (v := .int (nI (48 + v % 100 / 10))) C.1 C.2.1 z4 w.1.wide (vp_in_nI (by omega) (by omega)) (by rw [nI_clamp (by omega)]) dJ6_getChars_ba4f3_67 ?_
  refine j_bast C w (vp_in_nI (by omega) (by omega)) dJ6_getChars_ba4f3_68 (fun H locs w => ?_)
  rw [nI_clamp (by omega), jdg8 _ (by omega)] at w
  refine lv_goto (tgt := 22) C.1 C.2.1 dJ6_getChars_ba4f3_69 (by decide) ?_
  refine lv_iload_n C.1 C.2.1 dJ6_getChars_ba4f3_22 rfl (lv_at hl 1 rfl) ?_
  refine lv_bipush (v := (-100)) C.1 C.2.1 dJ6_getChars_ba4f3_23 (by decide) ?_
  refine lv_icmp_gt (tgt := 72) C.1 C.2.1 dJ6_getChars_ba4f3_25 (by decide) (fun _ => ?_) (fun hc => absurd (by rw [Int32.lt_iff_toInt_lt, jneg_toInt (by omega), show (-100 : Int32).toInt = -100 by decide]; omega) hc)
  refine lv_aload_n C.1 C.2.1 dJ6_getChars_ba4f3_72 rfl (lv_at hl 6 rfl) ?_
  refine lv_iinc (k := 0) (v := nI (t + 0)) (lv' := [(5, .int (nI (t + 0))), (0, .int (-(nI (v / 100)))), (4, .int (nI (v % 100))), (3, .int (-(nI (v / 100)))), (6, .int 0), (1, .int (nI (t + 3))), (2, .ref a)]) C.1 C.2.1 dJ6_getChars_ba4f3_73 hl rfl (pk_m1 (t + 0)) (by decide) rfl (fun ls hl => ?_)
  refine lv_iload C.1 C.2.1 dJ6_getChars_ba4f3_76 (lv_at hl 0 rfl) ?_
  refine va_gets C.1 C.2.1 z1 w.1.wide C.2.2.2.1 (C.2.2.2.2.1 _ wj_811) (fun _ h => h) dJ6_getChars_ba4f3_78 ?_
  refine lv_iload_n C.1 C.2.1 dJ6_getChars_ba4f3_81 rfl (lv_at hl 1 rfl) ?_
  refine lv_ineg C.1 C.2.1 dJ6_getChars_ba4f3_82 ?_
  rw [jneg2]
  refine va_tb (v := .int (nI (48 + (v / 100) % 10))) C.1 C.2.1 z2 w.1.wide (vp_in_nI (by omega) (by omega)) (by rw [nI_clamp (by omega)]) dJ6_getChars_ba4f3_83 ?_
  refine j_bast C w (vp_in_nI (by omega) (by omega)) dJ6_getChars_ba4f3_84 (fun H locs w => ?_)
  rw [nI_clamp (by omega), jdg8 _ (by omega)] at w
  refine lv_iload_n C.1 C.2.1 dJ6_getChars_ba4f3_85 rfl (lv_at hl 1 rfl) ?_
  refine lv_bipush (v := (-9)) C.1 C.2.1 dJ6_getChars_ba4f3_86 (by decide) ?_
  refine lv_icmp_ge (tgt := 104) C.1 C.2.1 dJ6_getChars_ba4f3_88 (by decide) (fun _ => ?_) (fun hc => absurd (by rw [Int32.le_iff_toInt_le, jneg_toInt (by omega), show (-9 : Int32).toInt = -9 by decide]; omega) hc)
  refine lv_iload C.1 C.2.1 dJ6_getChars_ba4f3_104 (lv_at hl 4 rfl) ?_
  refine lv_if_eq (tgt := 118) C.1 C.2.1 dJ6_getChars_ba4f3_106 (by decide) (fun _ => ?_) (fun hc => absurd (rfl) hc)
  refine lv_iload C.1 C.2.1 dJ6_getChars_ba4f3_118 (lv_at hl 0 rfl) ?_
  refine j_iret C w ⟨rfl, rfl, rfl, fun j hj => ?_, fun j hj => ?_⟩ hr dJ6_getChars_ba4f3_120
  · unfold upd
    rw [if_neg (show ¬ j = t + 0 by omega)]
    rw [if_neg (show ¬ j = t + 1 by omega)]
    rw [if_neg (show ¬ j = t + 2 by omega)]
  · rcases (show j = 0 ∨ j = 1 ∨ j = 2 by omega) with rfl | rfl | rfl
    · unfold upd
      exact (if_pos rfl).trans ((iI_nat _).trans (congrArg iI (show ((48 + v / 100 % 10 : Nat) : Int) = 48 + (v : Int) / 100 by omega)))
    · unfold upd
      rw [if_neg (show ¬ t + 1 = t + 0 by omega)]
      exact (if_pos rfl).trans ((iI_nat _).trans (congrArg iI (show ((48 + v % 100 / 10 : Nat) : Int) = 48 + (v : Int) / 10 % 10 by omega)))
    · unfold upd
      rw [if_neg (show ¬ t + 2 = t + 0 by omega)]
      rw [if_neg (show ¬ t + 2 = t + 1 by omega)]
      exact (if_pos rfl).trans ((iI_nat _).trans (congrArg iI (show ((48 + v % 100 % 10 : Nat) : Int) = 48 + (v : Int) % 10 by omega)))
theorem m_gc4 {l : Launch} {D DJ : va_G} {cA : Nat → ClassId} {B : BA} {A : Nat → Prop} {b a N : Nat} {f : Nat → Int32} {n : Int32} {v t : Nat} (h0 : 1000 ≤ v) (h : v < 10000) (h1 : t + 4 ≤ N) (h2 : N ≤ 286) : MJg l yJ6_getChars_ba4f3 cJ6_getChars_ba4f3 7 (some .int) 0 0 0 0 D DJ cA B A b a N n f [.int (nI v), .int (nI (t + 4)), .ref a] (some (.int (nI t))) (fun a' N' n' f' => a = a' ∧ N = N' ∧ n = n' ∧ (∀ j, j < t → f' j = f j) ∧ ∀ j, j < 4 → f' (t + j) = iI ([48 + (v : Int) / 1000, 48 + (v : Int) / 100 % 10, 48 + (v : Int) / 10 % 10, 48 + (v : Int) % 10].getD j 0)) := by
  refine MJg.of (by decide +kernel) (Nat.le_of_ble_eq_true rfl) ?_
  intro p e s m args below meth c C hr hname w ls hl
  have hl : lv_has ls 7 [(0, .int (nI v)), (1, .int (nI (t + 4))), (2, .ref a)] := hl
  obtain ⟨a1, a2, z1, z2, z3, z4⟩ := w.2.2.2.2.2.2.2
  refine lv_iload_n C.1 C.2.1 dJ6_getChars_ba4f3_0 rfl (lv_at hl 1 rfl) ?_
  refine lv_istore (lv' := [(5, .int (nI (t + 4))), (0, .int (nI v)), (1, .int (nI (t + 4))), (2, .ref a)]) C.1 C.2.1 dJ6_getChars_ba4f3_1 hl (by decide) rfl (fun ls hl => ?_)
  refine lv_iload_n C.1 C.2.1 dJ6_getChars_ba4f3_3 rfl (lv_at hl 1 rfl) ?_
  refine lv_if_ge (tgt := 11) C.1 C.2.1 dJ6_getChars_ba4f3_4 (by decide) (fun _ => ?_) (fun hc => absurd (nI_pos' (by omega)) hc)
  refine lv_iconst (v := 0) C.1 C.2.1 dJ6_getChars_ba4f3_11 (by decide) ?_
  refine lv_istore (lv' := [(6, .int 0), (5, .int (nI (t + 4))), (0, .int (nI v)), (1, .int (nI (t + 4))), (2, .ref a)]) C.1 C.2.1 dJ6_getChars_ba4f3_12 hl (by decide) rfl (fun ls hl => ?_)
  refine lv_iload C.1 C.2.1 dJ6_getChars_ba4f3_14 (lv_at hl 0 rfl) ?_
  refine lv_if_ne (tgt := 22) C.1 C.2.1 dJ6_getChars_ba4f3_16 (by decide) (fun hc => absurd (rfl) hc) (fun _ => ?_)
  refine lv_iload_n C.1 C.2.1 dJ6_getChars_ba4f3_19 rfl (lv_at hl 2 rfl) ?_
  refine lv_ineg C.1 C.2.1 dJ6_getChars_ba4f3_20 ?_
  refine lv_istore_n (lv' := [(0, .int (-(nI v))), (6, .int 0), (5, .int (nI (t + 4))), (1, .int (nI (t + 4))), (2, .ref a)]) C.1 C.2.1 dJ6_getChars_ba4f3_21 rfl hl (by decide) rfl (fun ls hl => ?_)
  refine lv_iload_n C.1 C.2.1 dJ6_getChars_ba4f3_22 rfl (lv_at hl 0 rfl) ?_
  refine lv_bipush (v := (-100)) C.1 C.2.1 dJ6_getChars_ba4f3_23 (by decide) ?_
  refine lv_icmp_gt (tgt := 72) C.1 C.2.1 dJ6_getChars_ba4f3_25 (by decide) (fun hc => absurd hc (by rw [Int32.lt_iff_toInt_lt, jneg_toInt (by omega), show (-100 : Int32).toInt = -100 by decide]; omega)) (fun _ => ?_)
  refine lv_iload_n C.1 C.2.1 dJ6_getChars_ba4f3_28 rfl (lv_at hl 0 rfl) ?_
  refine lv_bipush (v := 100) C.1 C.2.1 dJ6_getChars_ba4f3_29 (by decide) ?_
  refine lv_idiv C.1 C.2.1 dJ6_getChars_ba4f3_31 (by decide) ?_
  rw [(jdiv0 v (by omega)).1]
  refine lv_istore_n (lv' := [(3, .int (-(nI (v / 100)))), (0, .int (-(nI v))), (6, .int 0), (5, .int (nI (t + 4))), (1, .int (nI (t + 4))), (2, .ref a)]) C.1 C.2.1 dJ6_getChars_ba4f3_32 rfl hl (by decide) rfl (fun ls hl => ?_)
  refine lv_iload_n C.1 C.2.1 dJ6_getChars_ba4f3_33 rfl (lv_at hl 0 rfl) ?_
  refine lv_bipush (v := 100) C.1 C.2.1 dJ6_getChars_ba4f3_34 (by decide) ?_
  refine lv_imul C.1 C.2.1 dJ6_getChars_ba4f3_36 ?_
  refine lv_iload_n C.1 C.2.1 dJ6_getChars_ba4f3_37 rfl (lv_at hl 1 rfl) ?_
  refine lv_isub C.1 C.2.1 dJ6_getChars_ba4f3_38 ?_
  rw [(jdiv0 v (by omega)).2]
  refine lv_istore (lv' := [(4, .int (nI (v % 100))), (3, .int (-(nI (v / 100)))), (0, .int (-(nI v))), (6, .int 0), (5, .int (nI (t + 4))), (1, .int (nI (t + 4))), (2, .ref a)]) C.1 C.2.1 dJ6_getChars_ba4f3_39 hl (by decide) rfl (fun ls hl => ?_)
  refine lv_iload_n C.1 C.2.1 dJ6_getChars_ba4f3_41 rfl (lv_at hl 1 rfl) ?_
  refine lv_istore_n (lv' := [(0, .int (-(nI (v / 100)))), (4, .int (nI (v % 100))), (3, .int (-(nI (v / 100)))), (6, .int 0), (5, .int (nI (t + 4))), (1, .int (nI (t + 4))), (2, .ref a)]) C.1 C.2.1 dJ6_getChars_ba4f3_42 rfl hl (by decide) rfl (fun ls hl => ?_)
  refine lv_aload_n C.1 C.2.1 dJ6_getChars_ba4f3_43 rfl (lv_at hl 6 rfl) ?_
  refine lv_iinc (k := 4) (v := nI (t + 3)) (lv' := [(5, .int (nI (t + 3))), (0, .int (-(nI (v / 100)))), (4, .int (nI (v % 100))), (3, .int (-(nI (v / 100)))), (6, .int 0), (1, .int (nI (t + 4))), (2, .ref a)]) C.1 C.2.1 dJ6_getChars_ba4f3_44 hl rfl (pk_m1 (t + 3)) (by decide) rfl (fun ls hl => ?_)
  refine lv_iload C.1 C.2.1 dJ6_getChars_ba4f3_47 (lv_at hl 0 rfl) ?_
  refine va_gets C.1 C.2.1 z1 w.1.wide C.2.2.2.1 (C.2.2.2.2.1 _ wj_811) (fun _ h => h) dJ6_getChars_ba4f3_49 ?_
  refine lv_iload C.1 C.2.1 dJ6_getChars_ba4f3_52 (lv_at hl 2 rfl) ?_
  refine va_tb (v := .int (nI (48 + v % 100 % 10))) C.1 C.2.1 z2 w.1.wide (vp_in_nI (by omega) (by omega)) (by rw [nI_clamp (by omega)]) dJ6_getChars_ba4f3_54 ?_
  refine j_bast C w (vp_in_nI (by omega) (by omega)) dJ6_getChars_ba4f3_55 (fun H locs w => ?_)
  rw [nI_clamp (by omega), jdg8 _ (by omega)] at w
  refine lv_aload_n C.1 C.2.1 dJ6_getChars_ba4f3_56 rfl (lv_at hl 6 rfl) ?_
  refine lv_iinc (k := 0) (v := nI (t + 2)) (lv' := [(5, .int (nI (t + 2))), (0, .int (-(nI (v / 100)))), (4, .int (nI (v % 100))), (3, .int (-(nI (v / 100)))), (6, .int 0), (1, .int (nI (t + 4))), (2, .ref a)]) C.1 C.2.1 dJ6_getChars_ba4f3_57 hl rfl (pk_m1 (t + 2)) (by decide) rfl (fun ls hl => ?_)
  refine lv_iload C.1 C.2.1 dJ6_getChars_ba4f3_60 (lv_at hl 0 rfl) ?_
  refine va_gets C.1 C.2.1 z3 w.1.wide C.2.2.2.1 (C.2.2.2.2.1 _ wj_813) (fun _ h => h) dJ6_getChars_ba4f3_62 ?_
  refine lv_iload C.1 C.2.1 dJ6_getChars_ba4f3_65 (lv_at hl 2 rfl) ?_
  refine va_tb (v := .int (nI (48 + v % 100 / 10))) C.1 C.2.1 z4 w.1.wide (vp_in_nI (by omega) (by omega)) (by rw [nI_clamp (by omega)]) dJ6_getChars_ba4f3_67 ?_
  refine j_bast C w (vp_in_nI (by omega) (by omega)) dJ6_getChars_ba4f3_68 (fun H locs w => ?_)
  rw [nI_clamp (by omega), jdg8 _ (by omega)] at w
  refine lv_goto (tgt := 22) C.1 C.2.1 dJ6_getChars_ba4f3_69 (by decide) ?_
  refine lv_iload_n C.1 C.2.1 dJ6_getChars_ba4f3_22 rfl (lv_at hl 1 rfl) ?_
  refine lv_bipush (v := (-100)) C.1 C.2.1 dJ6_getChars_ba4f3_23 (by decide) ?_
  refine lv_icmp_gt (tgt := 72) C.1 C.2.1 dJ6_getChars_ba4f3_25 (by decide) (fun _ => ?_) (fun hc => absurd (by rw [Int32.lt_iff_toInt_lt, jneg_toInt (by omega), show (-100 : Int32).toInt = -100 by decide]; omega) hc)
  refine lv_aload_n C.1 C.2.1 dJ6_getChars_ba4f3_72 rfl (lv_at hl 6 rfl) ?_
  refine lv_iinc (k := 0) (v := nI (t + 1)) (lv' := [(5, .int (nI (t + 1))), (0, .int (-(nI (v / 100)))), (4, .int (nI (v % 100))), (3, .int (-(nI (v / 100)))), (6, .int 0), (1, .int (nI (t + 4))), (2, .ref a)]) C.1 C.2.1 dJ6_getChars_ba4f3_73 hl rfl (pk_m1 (t + 1)) (by decide) rfl (fun ls hl => ?_)
  refine lv_iload C.1 C.2.1 dJ6_getChars_ba4f3_76 (lv_at hl 0 rfl) ?_
  refine va_gets C.1 C.2.1 z1 w.1.wide C.2.2.2.1 (C.2.2.2.2.1 _ wj_811) (fun _ h => h) dJ6_getChars_ba4f3_78 ?_
  refine lv_iload_n C.1 C.2.1 dJ6_getChars_ba4f3_81 rfl (lv_at hl 1 rfl) ?_
  refine lv_ineg C.1 C.2.1 dJ6_getChars_ba4f3_82 ?_
  rw [jneg2]
  refine va_tb (v := .int (nI (48 + (v / 100) % 10))) C.1 C.2.1 z2 w.1.wide (vp_in_nI (by omega) (by omega)) (by rw [nI_clamp (by omega)]) dJ6_getChars_ba4f3_83 ?_
  refine j_bast C w (vp_in_nI (by omega) (by omega)) dJ6_getChars_ba4f3_84 (fun H locs w => ?_)
  rw [nI_clamp (by omega), jdg8 _ (by omega)] at w
  refine lv_iload_n C.1 C.2.1 dJ6_getChars_ba4f3_85 rfl (lv_at hl 1 rfl) ?_
  refine lv_bipush (v := (-9)) C.1 C.2.1 dJ6_getChars_ba4f3_86 (by decide) ?_
  refine lv_icmp_ge (tgt := 104) C.1 C.2.1 dJ6_getChars_ba4f3_88 (by decide) (fun hc => absurd hc (by rw [Int32.le_iff_toInt_le, jneg_toInt (by omega), show (-9 : Int32).toInt = -9 by decide]; omega)) (fun _ => ?_)
  refine lv_aload_n C.1 C.2.1 dJ6_getChars_ba4f3_91 rfl (lv_at hl 6 rfl) ?_
  refine lv_iinc (k := 0) (v := nI (t + 0)) (lv' := [(5, .int (nI (t + 0))), (0, .int (-(nI (v / 100)))), (4, .int (nI (v % 100))), (3, .int (-(nI (v / 100)))), (6, .int 0), (1, .int (nI (t + 4))), (2, .ref a)]) C.1 C.2.1 dJ6_getChars_ba4f3_92 hl rfl (pk_m1 (t + 0)) (by decide) rfl (fun ls hl => ?_)
  refine lv_iload C.1 C.2.1 dJ6_getChars_ba4f3_95 (lv_at hl 0 rfl) ?_
  refine va_gets C.1 C.2.1 z3 w.1.wide C.2.2.2.1 (C.2.2.2.2.1 _ wj_813) (fun _ h => h) dJ6_getChars_ba4f3_97 ?_
  refine lv_iload_n C.1 C.2.1 dJ6_getChars_ba4f3_100 rfl (lv_at hl 1 rfl) ?_
  refine lv_ineg C.1 C.2.1 dJ6_getChars_ba4f3_101 ?_
  rw [jneg2]
  refine va_tb (v := .int (nI (48 + (v / 100) / 10))) C.1 C.2.1 z4 w.1.wide (vp_in_nI (by omega) (by omega)) (by rw [nI_clamp (by omega)]) dJ6_getChars_ba4f3_102 ?_
  refine j_bast C w (vp_in_nI (by omega) (by omega)) dJ6_getChars_ba4f3_103 (fun H locs w => ?_)
  rw [nI_clamp (by omega), jdg8 _ (by omega)] at w
  refine lv_iload C.1 C.2.1 dJ6_getChars_ba4f3_104 (lv_at hl 4 rfl) ?_
  refine lv_if_eq (tgt := 118) C.1 C.2.1 dJ6_getChars_ba4f3_106 (by decide) (fun _ => ?_) (fun hc => absurd (rfl) hc)
  refine lv_iload C.1 C.2.1 dJ6_getChars_ba4f3_118 (lv_at hl 0 rfl) ?_
  refine j_iret C w ⟨rfl, rfl, rfl, fun j hj => ?_, fun j hj => ?_⟩ hr dJ6_getChars_ba4f3_120
  · unfold upd
    rw [if_neg (show ¬ j = t + 0 by omega)]
    rw [if_neg (show ¬ j = t + 1 by omega)]
    rw [if_neg (show ¬ j = t + 2 by omega)]
    rw [if_neg (show ¬ j = t + 3 by omega)]
  · rcases (show j = 0 ∨ j = 1 ∨ j = 2 ∨ j = 3 by omega) with rfl | rfl | rfl | rfl
    · unfold upd
      exact (if_pos rfl).trans ((iI_nat _).trans (congrArg iI (show ((48 + v / 100 / 10 : Nat) : Int) = 48 + (v : Int) / 1000 by omega)))
    · unfold upd
      rw [if_neg (show ¬ t + 1 = t + 0 by omega)]
      exact (if_pos rfl).trans ((iI_nat _).trans (congrArg iI (show ((48 + v / 100 % 10 : Nat) : Int) = 48 + (v : Int) / 100 % 10 by omega)))
    · unfold upd
      rw [if_neg (show ¬ t + 2 = t + 0 by omega)]
      rw [if_neg (show ¬ t + 2 = t + 1 by omega)]
      exact (if_pos rfl).trans ((iI_nat _).trans (congrArg iI (show ((48 + v % 100 / 10 : Nat) : Int) = 48 + (v : Int) / 10 % 10 by omega)))
    · unfold upd
      rw [if_neg (show ¬ t + 3 = t + 0 by omega)]
      rw [if_neg (show ¬ t + 3 = t + 1 by omega)]
      rw [if_neg (show ¬ t + 3 = t + 2 by omega)]
      exact (if_pos rfl).trans ((iI_nat _).trans (congrArg iI (show ((48 + v % 100 % 10 : Nat) : Int) = 48 + (v : Int) % 10 by omega)))
theorem m_getChars {l : Launch} {D DJ : va_G} {cA : Nat → ClassId} {B : BA} {A : Nat → Prop} {b a N : Nat} {f : Nat → Int32} {n : Int32} {v t : Nat} (h : v < 10000) (h1 : t + dgl v ≤ N) (h2 : N ≤ 286) : MJg l yJ6_getChars_ba4f3 cJ6_getChars_ba4f3 7 (some .int) 0 0 0 0 D DJ cA B A b a N n f [.int (nI v), .int (nI (t + dgl v)), .ref a] (some (.int (nI t))) (fun a' N' n' f' => a = a' ∧ N = N' ∧ n = n' ∧ (∀ j, j < t → f' j = f j) ∧ ∀ j, j < dgl v → f' (t + j) = iI ((dig v).getD j 0)) := by
  unfold dgl at h1 ⊢
  unfold dig
  by_cases c1 : v < 10
  · simp only [if_pos c1, if_pos (show (v : Int) < 10 by omega)] at h1 ⊢
    exact m_gc1 c1 h1 h2
  · by_cases c2 : v < 100
    · simp only [if_neg c1, if_pos c2, if_neg (show ¬ (v : Int) < 10 by omega), if_pos (show (v : Int) < 100 by omega)] at h1 ⊢
      exact m_gc2 (by omega) c2 h1 h2
    · by_cases c3 : v < 1000
      · simp only [if_neg c1, if_neg c2, if_pos c3, if_neg (show ¬ (v : Int) < 10 by omega), if_neg (show ¬ (v : Int) < 100 by omega), if_pos (show (v : Int) < 1000 by omega)] at h1 ⊢
        exact m_gc3 (by omega) c3 h1 h2
      · simp only [if_neg c1, if_neg c2, if_neg c3, if_neg (show ¬ (v : Int) < 10 by omega), if_neg (show ¬ (v : Int) < 100 by omega), if_neg (show ¬ (v : Int) < 1000 by omega)] at h1 ⊢
        exact m_gc4 (by omega) h h1 h2
theorem dgl_len (v : Nat) : (dig v).length = dgl v := by
  unfold dig dgl
  by_cases c1 : v < 10
  · rw [if_pos c1, if_pos (show (v : Int) < 10 by omega)]; rfl
  · rw [if_neg c1, if_neg (show ¬ (v : Int) < 10 by omega)]
    by_cases c2 : v < 100
    · rw [if_pos c2, if_pos (show (v : Int) < 100 by omega)]; rfl
    · rw [if_neg c2, if_neg (show ¬ (v : Int) < 100 by omega)]
      by_cases c3 : v < 1000
      · rw [if_pos c3, if_pos (show (v : Int) < 1000 by omega)]; rfl
      · rw [if_neg c3, if_neg (show ¬ (v : Int) < 1000 by omega)]; rfl
theorem dgl_4 (v : Nat) : dgl v ≤ 4 := by
  unfold dgl
  split
  · omega
  · split
    · omega
    · split <;> omega
theorem m_asbI {l : Launch} {D DJ : va_G} {cA : Nat → ClassId} {B : BA} {A : Nat → Prop} {b a N : Nat} {f : Nat → Int32} {T : Nat → Int32} {t : Nat} (hN : CPJ N) (ht : t ≤ N) (hT : ∀ j, j < t → f j = T j) {v : Nat} (hv : v < 10000) (h3 : t + dgl v ≤ 286) : MJ l yJ5_append_c97b9 cJ5_append_c97b9 4 (some (.object "java/lang/AbstractStringBuilder")) 4 170 1 286 D DJ cA B A b a N (nI t) f [.int (nI v)] (some (.ref b)) (fun _ N' n' f' => BTJ (catJ T t (fun j => iI ((dig v).getD j 0))) (t + dgl v) N' n' f') := by
  have hN9 := hN.le
  have hi9 := dgl_4 v
  have hN7 : 16 ≤ N := by
    unfold CPJ at hN
    omega
  refine MJg.of (by decide +kernel) (Nat.le_of_ble_eq_true rfl) ?_
  intro p e s m args below meth c C hr hname w ls hl
  have hl : lv_has ls 4 [(0, .ref b), (1, .int (nI v))] := hl
  refine lv_aload_n C.1 C.2.1 dJ5_append_c97b9_0 rfl (lv_at hl 0 rfl) ?_
  refine j_getN C w wj_473 dJ5_append_c97b9_1 ?_
  refine lv_istore_n (lv' := [(2, .int (nI t)), (0, .ref b), (1, .int (nI v))]) C.1 C.2.1 dJ5_append_c97b9_4 rfl hl (by decide) rfl (fun ls hl => ?_)
  refine lv_iload_n C.1 C.2.1 dJ5_append_c97b9_5 rfl (lv_at hl 0 rfl) ?_
  refine lv_iload_n C.1 C.2.1 dJ5_append_c97b9_6 rfl (lv_at hl 2 rfl) ?_
  refine j_callF (np := 1) (As := [.int (nI v)]) (rest := [.int (nI t)]) C w (m_stringSize hv) wj_805 wj_806 wj_52 wj_807 ⟨by decide +kernel, by decide +kernel, by decide +kernel⟩ rfl ⟨(Nat.le_of_ble_eq_true rfl), (Nat.le_of_ble_eq_true rfl)⟩ rfl (Nat.le_of_ble_eq_true rfl) hl.1 ⟨(Nat.le_of_ble_eq_true rfl), (Nat.le_of_ble_eq_true rfl)⟩ dJ5_append_c97b9_7 (fun H locs w => ?_)
  refine lv_iadd C.1 C.2.1 dJ5_append_c97b9_10 ?_
  rw [nI_add]
  refine lv_istore_n (lv' := [(3, .int (nI (t + dgl v))), (2, .int (nI t)), (0, .ref b), (1, .int (nI v))]) C.1 C.2.1 dJ5_append_c97b9_11 rfl hl (by decide) rfl (fun ls hl => ?_)
  refine lv_aload_n C.1 C.2.1 dJ5_append_c97b9_12 rfl (lv_at hl 2 rfl) ?_
  refine lv_iload_n C.1 C.2.1 dJ5_append_c97b9_13 rfl (lv_at hl 0 rfl) ?_
  refine j_callP (np := 1) (As := [.int (nI (t + dgl v))]) (rest := []) C w (m_ensure hN (by omega) (by omega)) wj_689 wj_691 (by decide) rfl wj_692 rfl rfl ⟨(Nat.le_of_ble_eq_true rfl), (Nat.le_of_ble_eq_true rfl)⟩ rfl (Nat.le_of_ble_eq_true rfl) hl.1 ⟨(Nat.le_of_ble_eq_true rfl), (Nat.le_of_ble_eq_true rfl)⟩ dJ5_append_c97b9_14 (fun H locs a9 N9 n9 f9 w h9 => ?_)
  obtain ⟨rfl, c1, c2, c3⟩ := h9
  have c4 := c1.le
  refine lv_aload_n C.1 C.2.1 dJ5_append_c97b9_17 rfl (lv_at hl 2 rfl) ?_
  refine j_callI (np := 0) (As := []) (rest := []) C w m_isLat wj_724 wj_725 wj_726 wj_727 rfl wj_40 wj_728 rfl rfl ⟨(Nat.le_of_ble_eq_true rfl), (Nat.le_of_ble_eq_true rfl)⟩ rfl (Nat.le_of_ble_eq_true rfl) hl.1 ⟨(Nat.le_of_ble_eq_true rfl), (Nat.le_of_ble_eq_true rfl)⟩ dJ5_append_c97b9_18 (fun H locs a8 N8 n8 f8 w h8 => ?_)
  obtain ⟨rfl, rfl, rfl, rfl⟩ := h8
  refine lv_if_eq (tgt := 37) C.1 C.2.1 dJ5_append_c97b9_21 (by decide) (fun hc => absurd hc (by decide)) (fun _ => ?_)
  refine lv_iload_n C.1 C.2.1 dJ5_append_c97b9_24 rfl (lv_at hl 3 rfl) ?_
  refine lv_iload_n C.1 C.2.1 dJ5_append_c97b9_25 rfl (lv_at hl 0 rfl) ?_
  refine lv_aload_n C.1 C.2.1 dJ5_append_c97b9_26 rfl (lv_at hl 2 rfl) ?_
  refine j_getV C w wj_470 dJ5_append_c97b9_27 ?_
  refine j_callFb (np := 3) (As := [.int (nI v), .int (nI (t + dgl v)), .ref a9]) (rest := []) C w (m_getChars hv c2 c4) wj_808 wj_809 wj_52 wj_810 ⟨by decide +kernel, by decide +kernel, by decide +kernel⟩ rfl ⟨(Nat.le_of_ble_eq_true rfl), (Nat.le_of_ble_eq_true rfl)⟩ rfl (Nat.le_of_ble_eq_true rfl) hl.1 ⟨(Nat.le_of_ble_eq_true rfl), (Nat.le_of_ble_eq_true rfl)⟩ dJ5_append_c97b9_30 (fun H locs a8 N8 n8 f8 w h8 => ?_)
  obtain ⟨rfl, rfl, rfl, d1, d2⟩ := h8
  refine lv_pop C.1 C.2.1 dJ5_append_c97b9_33 rfl ?_
  refine lv_goto (tgt := 48) C.1 C.2.1 dJ5_append_c97b9_34 (by decide) ?_
  refine lv_aload_n C.1 C.2.1 dJ5_append_c97b9_48 rfl (lv_at hl 2 rfl) ?_
  refine lv_iload_n C.1 C.2.1 dJ5_append_c97b9_49 rfl (lv_at hl 0 rfl) ?_
  refine j_putN C w wj_473 dJ5_append_c97b9_50 (fun H locs w => ?_)
  refine lv_aload_n C.1 C.2.1 dJ5_append_c97b9_53 rfl (lv_at hl 2 rfl) ?_
  refine W.cs (cells' := 1) (slots' := 286) rfl rfl ?_
  refine j_aret C w ⟨rfl, c1, c2, fun j hj => ?_⟩ hr (Or.inl ⟨_, rfl⟩) dJ5_append_c97b9_54
  unfold catJ
  by_cases h : t ≤ j
  · rw [if_pos h]
    have := d2 (j - t) (by omega)
    rw [show t + (j - t) = j by omega] at this
    exact this
  · rw [if_neg h, d1 j (by omega), c3 j (by omega)]
    exact hT j (by omega)
theorem m_appI {l : Launch} {D DJ : va_G} {cA : Nat → ClassId} {B : BA} {A : Nat → Prop} {b a N : Nat} {f : Nat → Int32} {T : Nat → Int32} {t : Nat} (hN : CPJ N) (ht : t ≤ N) (hT : ∀ j, j < t → f j = T j) {v : Nat} (hv : v < 10000) (h3 : t + dgl v ≤ 286) : MJ l yJ4_append_bf812 cJ4_append_bf812 2 (some (.object "java/lang/StringBuilder")) 5 195 1 286 D DJ cA B A b a N (nI t) f [.int (nI v)] (some (.ref b)) (fun _ N' n' f' => BTJ (catJ T t (fun j => iI ((dig v).getD j 0))) (t + dgl v) N' n' f') := by
  refine MJg.of (by decide +kernel) (Nat.le_of_ble_eq_true rfl) ?_
  intro p e s m args below meth c C hr hname w ls hl
  have hl : lv_has ls 2 [(0, .ref b), (1, .int (nI v))] := hl
  refine lv_aload_n C.1 C.2.1 dJ4_append_bf812_0 rfl (lv_at hl 0 rfl) ?_
  refine lv_iload_n C.1 C.2.1 dJ4_append_bf812_1 rfl (lv_at hl 1 rfl) ?_
  refine j_callU (np := 1) (As := [.int (nI v)]) (rest := []) C w (m_asbI hN ht hT hv h3) wj_802 wj_803 wj_1533 wj_482 wj_40 wj_804 ⟨by decide +kernel, rfl⟩ rfl ⟨(Nat.le_of_ble_eq_true rfl), (Nat.le_of_ble_eq_true rfl)⟩ rfl (Nat.le_of_ble_eq_true rfl) hl.1 ⟨(Nat.le_of_ble_eq_true rfl), (Nat.le_of_ble_eq_true rfl)⟩ dJ4_append_bf812_2 (fun H locs a9 N9 n9 f9 w h9 => ?_)
  refine lv_pop C.1 C.2.1 dJ4_append_bf812_5 rfl ?_
  refine lv_aload_n C.1 C.2.1 dJ4_append_bf812_6 rfl (lv_at hl 0 rfl) ?_
  refine W.cs (cells' := 1) (slots' := 286) rfl rfl ?_
  exact j_aret C w h9 hr (Or.inl ⟨_, rfl⟩) dJ4_append_bf812_7
