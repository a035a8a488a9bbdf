/-! the builder's methods: its capacity -/
theorem jshr0 (x : Int32) : x >>> ((0 : Int32) &&& 31) = x := by
  rw [show ((0 : Int32) &&& 31) = 0 by decide]
  simp
theorem jshl0 (x : Int32) : x <<< ((0 : Int32) &&& 31) = x := by
  rw [show ((0 : Int32) &&& 31) = 0 by decide]
  simp
theorem jfit0 {f : Nat → Int32} {N : Nat} (h : sb_Fit f) : sb_Fit (fun j => if j < N then f j else 0) := fun j => by
  show fits .byte (.int (if j < N then f j else 0)) = true
  split
  · exact h j
  · decide
/-- the capacities -/
def CPJ (N : Nat) : Prop := N = 16 ∨ N = 34 ∨ N = 70 ∨ N = 142 ∨ N = 286
theorem CPJ.le {N : Nat} (h : CPJ N) : N ≤ 286 := by
  unfold CPJ at h
  omega
theorem CPJ.dbl {N : Nat} (h : CPJ N) (h1 : N < 286) : CPJ (2 * N + 2) := by
  unfold CPJ at h ⊢
  omega
theorem jcap0 : ∀ N ∈ [16, 34, 70, 142], ∀ q, q < 287 → N < q → q ≤ 2 * N + 2 → nI N + (if nI q - nI N < nI N + 2 then nI N + 2 else nI q - nI N) = nI (2 * N + 2) := by decide +kernel
theorem jcap {N q : Nat} (hN : CPJ N) (h1 : N < q) (h2 : q ≤ 2 * N + 2) (h3 : q ≤ 286) : nI N + (if nI q - nI N < nI N + 2 then nI N + 2 else nI q - nI N) = nI (2 * N + 2) := by
  refine jcap0 N ?_ q (by omega) h1 h2
  unfold CPJ at hN
  simp only [List.mem_cons, List.not_mem_nil, or_false]
  omega
theorem m_newLength {l : Launch} {D : va_G} {cA : Nat → ClassId} {B : BA} {S : Nat → Prop} {σ0 : GS} {a b d x : Int32} (hx : a + (if b < d then d else b) = x) (h0 : 0 < x) (h1 : x ≤ 2147483639) : MF l yJ8_newLength_cabcc cJ8_newLength_cabcc 4 (some .int) 1 30 D cA B S [.int a, .int b, .int d] σ0 σ0 (some (.int x)) := by
  refine MF.of (by decide +kernel) (Nat.le_of_ble_eq_true rfl) ?_
  intro p e s m args below meth c C hr w ls hl
  have hl : lv_has ls 4 [(0, .int a), (1, .int b), (2, .int d)] := hl
  refine lv_iload_n C.1 C.2.1 dJ8_newLength_cabcc_0 rfl (lv_at hl 0 rfl) ?_
  refine lv_iload_n C.1 C.2.1 dJ8_newLength_cabcc_1 rfl (lv_at hl 1 rfl) ?_
  refine lv_iload_n C.1 C.2.1 dJ8_newLength_cabcc_2 rfl (lv_at hl 2 rfl) ?_
  refine va_mmax C.1 C.2.1 (C.2.2.1.trans hl.1.symm) C.2.2.2.1 (C.2.2.2.2.1 _ wj_700) (C.2.2.2.2.1 _ wj_701) (C.2.2.2.2.1 _ wj_47) (C.2.2.2.2.1 _ wj_702) (Nat.le_of_ble_eq_true rfl) (Nat.le_of_ble_eq_true rfl) (Nat.zero_le _) (Nat.zero_le _) dJ8_newLength_cabcc_3 ?_
  refine lv_iadd C.1 C.2.1 dJ8_newLength_cabcc_6 ?_
  rw [hx]
  refine lv_istore_n (lv' := [(3, .int x), (0, .int a), (1, .int b), (2, .int d)]) C.1 C.2.1 dJ8_newLength_cabcc_7 rfl hl (by decide) rfl (fun ls hl => ?_)
  refine lv_iconst (v := 0) C.1 C.2.1 dJ8_newLength_cabcc_8 (by decide) ?_
  refine lv_iload_n C.1 C.2.1 dJ8_newLength_cabcc_9 rfl (lv_at hl 0 rfl) ?_
  refine lv_icmp_ge (tgt := 21) C.1 C.2.1 dJ8_newLength_cabcc_10 (by decide) (fun hc => absurd hc (Int32.not_le.mpr h0)) (fun _ => ?_)
  refine lv_iload_n C.1 C.2.1 dJ8_newLength_cabcc_13 rfl (lv_at hl 0 rfl) ?_
  refine lv_ldc (v := 2147483639) C.1 C.2.1 C.2.2.2.1 (C.2.2.2.2.1 _ wj_703) dJ8_newLength_cabcc_14 ?_
  refine lv_icmp_gt (tgt := 21) C.1 C.2.1 dJ8_newLength_cabcc_16 (by decide) (fun hc => absurd hc (Int32.not_lt.mpr h1)) (fun _ => ?_)
  refine lv_iload_n C.1 C.2.1 dJ8_newLength_cabcc_19 rfl (lv_at hl 0 rfl) ?_
  exact g_iret C w hr dJ8_newLength_cabcc_20
theorem m_newCapacity {l : Launch} {D DJ : va_G} {cA : Nat → ClassId} {B : BA} {A : Nat → Prop} {b a N : Nat} {f : Nat → Int32} {n : Int32} {q : Nat} (hN : CPJ N) (h1 : N < q) (h2 : q ≤ 2 * N + 2) (h3 : q ≤ 286) : MJ l yJ5_newCapacity_0f7a4 cJ5_newCapacity_0f7a4 6 (some .int) 2 60 0 0 D DJ cA B A b a N n f [.int (nI q)] (some (.int (nI (2 * N + 2)))) (fun a' N' n' f' => a = a' ∧ N = N' ∧ n = n' ∧ f = f') := by
  have hN9 := hN.le
  refine MJg.of (by decide +kernel) (Nat.le_of_ble_eq_true rfl) ?_
  intro p e s m args below meth c C hr hname w ls hl
  have hl : lv_has ls 6 [(0, .ref b), (1, .int (nI q))] := hl
  refine lv_aload_n C.1 C.2.1 dJ5_newCapacity_0f7a4_0 rfl (lv_at hl 0 rfl) ?_
  refine j_getV C w wj_470 dJ5_newCapacity_0f7a4_1 ?_
  refine j_alen C w.2.1.2.1 dJ5_newCapacity_0f7a4_4 ?_
  refine lv_istore_n (lv' := [(2, .int (nI N)), (0, .ref b), (1, .int (nI q))]) C.1 C.2.1 dJ5_newCapacity_0f7a4_5 rfl hl (by decide) rfl (fun ls hl => ?_)
  refine lv_iload_n C.1 C.2.1 dJ5_newCapacity_0f7a4_6 rfl (lv_at hl 2 rfl) ?_
  refine lv_aload_n C.1 C.2.1 dJ5_newCapacity_0f7a4_7 rfl (lv_at hl 1 rfl) ?_
  refine j_getC C w wj_471 dJ5_newCapacity_0f7a4_8 ?_
  refine lv_ishl C.1 C.2.1 dJ5_newCapacity_0f7a4_11 ?_
  rw [jshl0]
  refine lv_istore_n (lv' := [(3, .int (nI q)), (2, .int (nI N)), (0, .ref b), (1, .int (nI q))]) C.1 C.2.1 dJ5_newCapacity_0f7a4_12 rfl hl (by decide) rfl (fun ls hl => ?_)
  refine lv_iload_n C.1 C.2.1 dJ5_newCapacity_0f7a4_13 rfl (lv_at hl 0 rfl) ?_
  refine lv_iload_n C.1 C.2.1 dJ5_newCapacity_0f7a4_14 rfl (lv_at hl 1 rfl) ?_
  refine lv_isub C.1 C.2.1 dJ5_newCapacity_0f7a4_15 ?_
  refine lv_istore (lv' := [(4, .int ((nI q) - (nI N))), (3, .int (nI q)), (2, .int (nI N)), (0, .ref b), (1, .int (nI q))]) C.1 C.2.1 dJ5_newCapacity_0f7a4_16 hl (by decide) rfl (fun ls hl => ?_)
  refine lv_iload_n C.1 C.2.1 dJ5_newCapacity_0f7a4_18 rfl (lv_at hl 2 rfl) ?_
  refine lv_iload C.1 C.2.1 dJ5_newCapacity_0f7a4_19 (lv_at hl 0 rfl) ?_
  refine lv_iload_n C.1 C.2.1 dJ5_newCapacity_0f7a4_21 rfl (lv_at hl 2 rfl) ?_
  refine lv_iconst (v := 2) C.1 C.2.1 dJ5_newCapacity_0f7a4_22 (by decide) ?_
  refine lv_aload_n C.1 C.2.1 dJ5_newCapacity_0f7a4_23 rfl (lv_at hl 3 rfl) ?_
  refine j_getC C w wj_471 dJ5_newCapacity_0f7a4_24 ?_
  refine lv_ishl C.1 C.2.1 dJ5_newCapacity_0f7a4_27 ?_
  rw [jshl0]
  refine lv_iadd C.1 C.2.1 dJ5_newCapacity_0f7a4_28 ?_
  refine j_callF (np := 3) (As := [.int (nI N), .int (nI q - nI N), .int (nI N + 2)]) (rest := []) C w (m_newLength (jcap hN h1 h2 h3) (nI_lt (a := 0) (by omega) (by omega)) (nI_le (b := 2147483639) (by omega) (by decide))) wj_697 wj_698 wj_46 wj_699 ⟨by decide +kernel, by decide +kernel, by decide +kernel⟩ rfl ⟨(Nat.le_of_ble_eq_true rfl), (Nat.le_of_ble_eq_true rfl)⟩ rfl (Nat.le_of_ble_eq_true rfl) hl.1 ⟨Nat.le_refl _, Nat.le_refl _⟩ dJ5_newCapacity_0f7a4_29 (fun H locs w => ?_)
  refine lv_istore (lv' := [(5, .int (nI (2 * N + 2))), (4, .int ((nI q) - (nI N))), (3, .int (nI q)), (2, .int (nI N)), (0, .ref b), (1, .int (nI q))]) C.1 C.2.1 dJ5_newCapacity_0f7a4_32 hl (by decide) rfl (fun ls hl => ?_)
  refine lv_iload C.1 C.2.1 dJ5_newCapacity_0f7a4_34 (lv_at hl 0 rfl) ?_
  refine lv_ldc (v := 2147483647) C.1 C.2.1 C.2.2.2.1 (C.2.2.2.2.1 _ wj_707) dJ5_newCapacity_0f7a4_36 ?_
  refine lv_icmp_ne (tgt := 51) C.1 C.2.1 dJ5_newCapacity_0f7a4_38 (by decide) (fun _ => ?_) (fun hc => absurd hc (fun z => absurd ((nI_eq (b := 2147483647) (by omega) (by decide)).mp z) (by omega)))
  refine lv_iload C.1 C.2.1 dJ5_newCapacity_0f7a4_51 (lv_at hl 0 rfl) ?_
  refine lv_aload_n C.1 C.2.1 dJ5_newCapacity_0f7a4_53 rfl (lv_at hl 4 rfl) ?_
  refine j_getC C w wj_471 dJ5_newCapacity_0f7a4_54 ?_
  refine lv_ishr C.1 C.2.1 dJ5_newCapacity_0f7a4_57 ?_
  rw [jshr0]
  exact j_iret C w ⟨rfl, rfl, rfl, rfl⟩ hr dJ5_newCapacity_0f7a4_58
theorem m_copyOf {l : Launch} {D DJ : va_G} {cA : Nat → ClassId} {B : BA} {x N M z : Nat} {f : Nat → Int32} (hf : sb_Fit f) (h1 : N < M) (h2 : M ≤ 65536) : MC l yJ7_copyOf_9075b cJ7_copyOf_9075b 3 1 100 M D DJ cA B x N f z [.ref x, .int (nI M)] (fun j => if j < N then f j else 0) := by
  refine MC.of (by decide +kernel) (Nat.le_of_ble_eq_true rfl) ?_
  intro p e s m args below meth c C hr w hKJ hz hx ls hl
  subst hz
  have hl : lv_has ls 3 [(0, .ref x), (1, .int (nI M))] := hl
  refine lv_iload_n C.1 C.2.1 dJ7_copyOf_9075b_0 rfl (lv_at hl 1 rfl) ?_
  refine lv_aload_n C.1 C.2.1 dJ7_copyOf_9075b_1 rfl (lv_at hl 0 rfl) ?_
  refine j_alen C hx dJ7_copyOf_9075b_2 ?_
  refine lv_icmp_ne (tgt := 14) C.1 C.2.1 dJ7_copyOf_9075b_3 (by decide) (fun _ => ?_) (fun hc => absurd hc (fun z => absurd ((nI_eq (by omega) (by omega)).mp z) (by omega)))
  refine lv_iload_n C.1 C.2.1 dJ7_copyOf_9075b_14 rfl (lv_at hl 1 rfl) ?_
  refine j_newa (M := M) C (nI_pos (by omega)) (nI_clamp (by omega)) (by omega) (Nat.le_of_ble_eq_true rfl) (by show 0 + M ≤ M; omega) dJ7_copyOf_9075b_15 (fun H e1 z1 o1 => ?_)
  refine lv_astore_n (lv' := [(2, .ref s.heap.size), (0, .ref x), (1, .int (nI M))]) C.1 C.2.1 dJ7_copyOf_9075b_17 rfl hl (by decide) rfl (fun ls hl => ?_)
  refine lv_aload_n C.1 C.2.1 dJ7_copyOf_9075b_18 rfl (lv_at hl 1 rfl) ?_
  refine lv_iconst (v := 0) C.1 C.2.1 dJ7_copyOf_9075b_19 (by decide) ?_
  refine lv_aload_n C.1 C.2.1 dJ7_copyOf_9075b_20 rfl (lv_at hl 0 rfl) ?_
  refine lv_iconst (v := 0) C.1 C.2.1 dJ7_copyOf_9075b_21 (by decide) ?_
  refine lv_aload_n C.1 C.2.1 dJ7_copyOf_9075b_22 rfl (lv_at hl 1 rfl) ?_
  refine j_alen C ((o1 x (Array.getElem?_eq_some_iff.mp hx).1).trans hx) dJ7_copyOf_9075b_23 ?_
  refine lv_iload_n C.1 C.2.1 dJ7_copyOf_9075b_24 rfl (lv_at hl 2 rfl) ?_
  refine va_mmin C.1 C.2.1 (C.2.2.1.trans hl.1.symm) C.2.2.2.1 (C.2.2.2.2.1 _ wj_718) (C.2.2.2.2.1 _ wj_719) (C.2.2.2.2.1 _ wj_47) (C.2.2.2.2.1 _ wj_720) (Nat.le_of_ble_eq_true rfl) (Nat.le_of_ble_eq_true rfl) (Nat.le_of_ble_eq_true rfl) (by show 0 + M ≤ M; omega) dJ7_copyOf_9075b_25 ?_
  rw [if_neg (nI_nlt (by omega) (by omega))]
  refine j_copyA (N := N) (M := M) C ((o1 x (Array.getElem?_eq_some_iff.mp hx).1).trans hx) ((C.2.2.2.2.2.1.2.1 10 (by decide) (by decide)).1 _ _) (fun h => by cases h) hf (fun i hi => arrV_read _ _ hi) e1 (by decide) (by decide) (nI_pos (by omega)) (by rw [nI_clamp (by omega)]; show 0 + N ≤ N; omega) (by rw [nI_clamp (by omega)]; show 0 + N ≤ M; omega) wj_721 hl.1 (Nat.le_of_ble_eq_true rfl) (Nat.le_of_ble_eq_true rfl) dJ7_copyOf_9075b_28 (fun H1 L c1 c2 c3 c4 => ?_)
  refine lv_aload_n C.1 C.2.1 dJ7_copyOf_9075b_31 rfl (lv_at hl 0 rfl) ?_
  refine W.cs (cells' := 1) (slots' := M) (by omega) (by omega) ?_
  refine j_cret C (z := s.heap.size) (WS.s0 (va_S.put2 (va_S.new w.2.2.1 z1 o1) (Nat.le_refl _) c2 c3 c4) w.2.2.2.2) (Nat.le_refl _) ?_ hr dJ7_copyOf_9075b_32
  rw [c1]
  refine congrArg some (arrV_congr fun j hj => ?_)
  rw [nI_clamp (by omega)]
  show Value.int (va_cpy f (fun _ => 0) 0 0 N j) = _
  by_cases h : j < N
  · rw [pk_cpy_in (by omega) (by omega), if_pos h]
    congr 2
    omega
  · rw [pk_cpy_out (by omega), if_neg h]
theorem m_ensure {l : Launch} {D DJ : va_G} {cA : Nat → ClassId} {B : BA} {A : Nat → Prop} {b a N : Nat} {f : Nat → Int32} {n : Int32} {q : Nat} (hN : CPJ N) (h2 : q ≤ 2 * N + 2) (h3 : q ≤ 286) : MJ l yJ5_ensureCapacityInternal_d00df cJ5_ensureCapacityInternal_d00df 3 none 3 140 1 286 D DJ cA B A b a N n f [.int (nI q)] none (fun _ N' n' f' => n = n' ∧ CPJ N' ∧ q ≤ N' ∧ ∀ j, j < N → f' j = f j) := by
  have hN9 := hN.le
  refine MJg.of (by decide +kernel) (Nat.le_of_ble_eq_true rfl) ?_
  intro p e s m args below meth c C hr hname w ls hl
  have hl : lv_has ls 3 [(0, .ref b), (1, .int (nI q))] := hl
  refine lv_aload_n C.1 C.2.1 dJ5_ensureCapacityInternal_d00df_0 rfl (lv_at hl 0 rfl) ?_
  refine j_getV C w wj_470 dJ5_ensureCapacityInternal_d00df_1 ?_
  refine j_alen C w.2.1.2.1 dJ5_ensureCapacityInternal_d00df_4 ?_
  refine lv_aload_n C.1 C.2.1 dJ5_ensureCapacityInternal_d00df_5 rfl (lv_at hl 0 rfl) ?_
  refine j_getC C w wj_471 dJ5_ensureCapacityInternal_d00df_6 ?_
  refine lv_ishr C.1 C.2.1 dJ5_ensureCapacityInternal_d00df_9 ?_
  rw [jshr0]
  refine lv_istore_n (lv' := [(2, .int (nI N)), (0, .ref b), (1, .int (nI q))]) C.1 C.2.1 dJ5_ensureCapacityInternal_d00df_10 rfl hl (by decide) rfl (fun ls hl => ?_)
  refine lv_iload_n C.1 C.2.1 dJ5_ensureCapacityInternal_d00df_11 rfl (lv_at hl 2 rfl) ?_
  refine lv_iload_n C.1 C.2.1 dJ5_ensureCapacityInternal_d00df_12 rfl (lv_at hl 0 rfl) ?_
  refine lv_isub C.1 C.2.1 dJ5_ensureCapacityInternal_d00df_13 ?_
  by_cases h : q ≤ N
  · refine lv_if_le (tgt := 38) C.1 C.2.1 dJ5_ensureCapacityInternal_d00df_14 (by decide) (fun _ => ?_) (fun hc => absurd (by rw [Int32.le_iff_toInt_le, pk_sub_toInt (by omega) (by omega), Int32.toInt_zero]; omega) hc)
    refine W.widen (k := 1) (n := 286) (Nat.le_of_ble_eq_true rfl) (Nat.le_of_ble_eq_true rfl) ?_
    exact j_vret C w ⟨rfl, hN, h, fun _ _ => rfl⟩ hr dJ5_ensureCapacityInternal_d00df_38
  · have hN8 : 2 * N + 2 ≤ 286 := by
      unfold CPJ at hN
      omega
    refine lv_if_le (tgt := 38) C.1 C.2.1 dJ5_ensureCapacityInternal_d00df_14 (by decide) (fun hc => absurd hc (by rw [Int32.le_iff_toInt_le, pk_sub_toInt (by omega) (by omega), Int32.toInt_zero]; omega)) (fun _ => ?_)
    refine lv_aload_n C.1 C.2.1 dJ5_ensureCapacityInternal_d00df_17 rfl (lv_at hl 1 rfl) ?_
    refine lv_aload_n C.1 C.2.1 dJ5_ensureCapacityInternal_d00df_18 rfl (lv_at hl 1 rfl) ?_
    refine j_getV C w wj_470 dJ5_ensureCapacityInternal_d00df_19 ?_
    refine lv_aload_n C.1 C.2.1 dJ5_ensureCapacityInternal_d00df_22 rfl (lv_at hl 1 rfl) ?_
    refine lv_iload_n C.1 C.2.1 dJ5_ensureCapacityInternal_d00df_23 rfl (lv_at hl 2 rfl) ?_
    refine j_callP (np := 1) (As := [.int (nI q)]) (rest := [.ref a, .ref b]) C w (m_newCapacity hN (by omega) h2 h3) wj_693 wj_695 (by decide) rfl wj_696 rfl rfl ⟨(Nat.le_of_ble_eq_true rfl), (Nat.le_of_ble_eq_true rfl)⟩ rfl (Nat.le_of_ble_eq_true rfl) hl.1 ⟨(Nat.le_of_ble_eq_true rfl), (Nat.le_of_ble_eq_true rfl)⟩ dJ5_ensureCapacityInternal_d00df_24 (fun H locs a9 N9 n9 f9 w h9 => ?_)
    obtain ⟨rfl, rfl, rfl, rfl⟩ := h9
    refine lv_aload_n C.1 C.2.1 dJ5_ensureCapacityInternal_d00df_27 rfl (lv_at hl 1 rfl) ?_
    refine j_getC C w wj_471 dJ5_ensureCapacityInternal_d00df_28 ?_
    refine lv_ishl C.1 C.2.1 dJ5_ensureCapacityInternal_d00df_31 ?_
    rw [jshl0]
    refine j_callC (np := 2) (As := [.ref a, .int (nI (2 * N + 2))]) (rest := [.ref b]) (M := 2 * N + 2) C w.sv w.1.2.2.2.2 (fun q hq => w.2.2.2.2.1 q (Nat.le_trans w.sv.1 hq)) w.2.2.2.2.2 (m_copyOf w.2.1.2.2.2 (by omega) (by omega)) w.2.1.2.1 wj_708 wj_709 wj_48 wj_710 ⟨by decide +kernel, by decide +kernel, by decide +kernel⟩ rfl ⟨(Nat.le_of_ble_eq_true rfl), (Nat.le_of_ble_eq_true rfl)⟩ rfl (Nat.le_of_ble_eq_true rfl) hl.1 ⟨(Nat.le_of_ble_eq_true rfl), by show 0 + 0 + (2 * N + 2) ≤ 286; omega⟩ dJ5_ensureCapacityInternal_d00df_32 (fun H1 locs1 r hzr g1 g2 g3 => ?_)
    have w1 : JW D DJ cA B A b a N n f s H1 locs1 := ⟨WS.s0 g3 w.1.2.2.2.2, w.2.1.kept g2, w.2.2⟩
    refine j_putV C w1 g1 (Nat.ne_of_gt (Nat.lt_of_lt_of_le (tOB_lt w.2.1.1) hzr)) (jfit0 w.2.1.2.2.2) (w.2.2.2.2.1 _ (Nat.le_trans w.sv.1 hzr)) wj_470 dJ5_ensureCapacityInternal_d00df_35 (fun H locs w => ?_)
    refine W.widen (k := 1) (n := 286) (Nat.le_of_ble_eq_true rfl) (by omega) ?_
    exact j_vret C w ⟨rfl, hN.dbl (by omega), h2, fun j hj => if_pos hj⟩ hr dJ5_ensureCapacityInternal_d00df_38
theorem m_isLat {l : Launch} {D DJ : va_G} {cA : Nat → ClassId} {B : BA} {A : Nat → Prop} {b a N : Nat} {f : Nat → Int32} {n : Int32} : MJ l yJ5_isLatin1_aae02 cJ5_isLatin1_aae02 1 (some .boolean) 0 0 0 0 D DJ cA B A b a N n f [] (some (.int 1)) (fun a' N' n' f' => a = a' ∧ N = N' ∧ n = n' ∧ f = f') := by
  refine MJg.of (by decide +kernel) (Nat.le_of_ble_eq_true rfl) ?_
  intro p e s m args below meth c C hr hname w ls hl
  have hl : lv_has ls 1 [(0, .ref b)] := hl
  refine va_gets C.1 C.2.1 C.2.2.2.2.2.2.2.2.1 w.1.wide C.2.2.2.1 (C.2.2.2.2.1 _ wj_461) (fun _ h => h) dJ5_isLatin1_aae02_0 ?_
  refine lv_if_eq (tgt := 17) C.1 C.2.1 dJ5_isLatin1_aae02_3 (by decide) (fun hc => absurd hc (by decide)) (fun _ => ?_)
  refine lv_aload_n C.1 C.2.1 dJ5_isLatin1_aae02_6 rfl (lv_at hl 0 rfl) ?_
  refine j_getC C w wj_471 dJ5_isLatin1_aae02_7 ?_
  refine lv_if_ne (tgt := 17) C.1 C.2.1 dJ5_isLatin1_aae02_10 (by decide) (fun hc => absurd (rfl) hc) (fun _ => ?_)
  refine lv_iconst (v := 1) C.1 C.2.1 dJ5_isLatin1_aae02_13 (by decide) ?_
  refine lv_goto (tgt := 18) C.1 C.2.1 dJ5_isLatin1_aae02_14 (by decide) ?_
  exact j_zret C w ⟨rfl, rfl, rfl, rfl⟩ hr rfl dJ5_isLatin1_aae02_18
