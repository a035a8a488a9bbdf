/-! the builder's methods: what is appended -/
/-- the builder's text: t letters T -/
def BTJ (T : Nat → Int32) (t N : Nat) (n : Int32) (f : Nat → Int32) : Prop := n = nI t ∧ CPJ N ∧ t ≤ N ∧ ∀ j, j < t → f j = T j
def catJ (T : Nat → Int32) (t : Nat) (u : Nat → Int32) : Nat → Int32 := fun j => if t ≤ j then u (j - t) else T j
theorem strB_fit0 : ∀ t, t < strL.length → ∀ b ∈ strB t, fits .byte (.int b) = true := by decide +kernel
theorem strB_fit {t : Nat} (ht : t < strL.length) : sb_Fit (fun j => (strB t).getD j 0) := fun j => by
  show fits .byte (.int ((strB t).getD j 0)) = true
  by_cases h : j < (strB t).length
  · rw [List.getD_eq_getElem?_getD, List.getElem?_eq_getElem h]
    exact strB_fit0 t ht _ (List.getElem_mem h)
  · rw [List.getD_eq_getElem?_getD, List.getElem?_eq_none (Nat.not_lt.mp h)]
    decide
theorem strB_l8 {t : Nat} (ht : t < strL.length) : (strB t).length ≤ 8 := Nat.le_of_lt_succ (strB_ok t ht).1
theorem m_asbC {l : Launch} {D DJ : va_G} {cA : Nat → ClassId} {B : BA} {A : Nat → Prop} {b a N : Nat} {f : Nat → Int32} {T : Nat → Int32} {t : Nat} (hN : CPJ N) (ht : t ≤ N) (hT : ∀ j, j < t → f j = T j) {ch : Int32} (h255 : ch ≤ 255) (hch : ch.toInt8.toInt32 = ch) (h3 : t + 1 ≤ 286) : MJ l yJ5_append_3fe6f cJ5_append_3fe6f 2 (some (.object "java/lang/AbstractStringBuilder")) 4 170 1 286 D DJ cA B A b a N (nI t) f [.int ch] (some (.ref b)) (fun _ N' n' f' => BTJ (catJ T t (fun _ => ch)) (t + 1) N' n' f') := by
  have hN9 := hN.le
  refine MJg.of (by decide +kernel) (Nat.le_of_ble_eq_true rfl) ?_
  intro p e s m args below meth c C hr hname w ls hl
  have hl : lv_has ls 2 [(0, .ref b), (1, .int ch)] := hl
  refine lv_aload_n C.1 C.2.1 dJ5_append_3fe6f_0 rfl (lv_at hl 0 rfl) ?_
  refine lv_aload_n C.1 C.2.1 dJ5_append_3fe6f_1 rfl (lv_at hl 0 rfl) ?_
  refine j_getN C w wj_473 dJ5_append_3fe6f_2 ?_
  refine lv_iconst (v := 1) C.1 C.2.1 dJ5_append_3fe6f_5 (by decide) ?_
  refine lv_iadd C.1 C.2.1 dJ5_append_3fe6f_6 ?_
  rw [nI_1]
  refine j_callP (np := 1) (As := [.int (nI (t + 1))]) (rest := []) C w (m_ensure hN (by omega) (by omega)) wj_689 wj_691 (by decide) rfl wj_692 rfl rfl ⟨(Nat.le_of_ble_eq_true rfl), (Nat.le_of_ble_eq_true rfl)⟩ rfl (Nat.le_of_ble_eq_true rfl) hl.1 ⟨(Nat.le_of_ble_eq_true rfl), (Nat.le_of_ble_eq_true rfl)⟩ dJ5_append_3fe6f_7 (fun H locs a9 N9 n9 f9 w h9 => ?_)
  obtain ⟨rfl, c1, c2, c3⟩ := h9
  have c4 := c1.le
  refine lv_aload_n C.1 C.2.1 dJ5_append_3fe6f_10 rfl (lv_at hl 0 rfl) ?_
  refine j_callI (np := 0) (As := []) (rest := []) C w m_isLat wj_724 wj_725 wj_726 wj_727 rfl wj_40 wj_728 rfl rfl ⟨(Nat.le_of_ble_eq_true rfl), (Nat.le_of_ble_eq_true rfl)⟩ rfl (Nat.le_of_ble_eq_true rfl) hl.1 ⟨(Nat.le_of_ble_eq_true rfl), (Nat.le_of_ble_eq_true rfl)⟩ dJ5_append_3fe6f_11 (fun H locs a8 N8 n8 f8 w h8 => ?_)
  obtain ⟨rfl, rfl, rfl, rfl⟩ := h8
  refine lv_if_eq (tgt := 45) C.1 C.2.1 dJ5_append_3fe6f_14 (by decide) (fun hc => absurd hc (by decide)) (fun _ => ?_)
  refine lv_iload_n C.1 C.2.1 dJ5_append_3fe6f_17 rfl (lv_at hl 1 rfl) ?_
  refine j_callF (np := 1) (As := [.int ch]) (rest := []) C w (m_canEncode h255) wj_830 wj_831 in_J1 wj_832 ⟨by decide +kernel, by decide +kernel, by decide +kernel⟩ rfl ⟨(Nat.le_of_ble_eq_true rfl), (Nat.le_of_ble_eq_true rfl)⟩ rfl (Nat.le_of_ble_eq_true rfl) hl.1 ⟨(Nat.le_of_ble_eq_true rfl), (Nat.le_of_ble_eq_true rfl)⟩ dJ5_append_3fe6f_18 (fun H locs w => ?_)
  refine lv_if_eq (tgt := 45) C.1 C.2.1 dJ5_append_3fe6f_21 (by decide) (fun hc => absurd hc (by decide)) (fun _ => ?_)
  refine lv_aload_n C.1 C.2.1 dJ5_append_3fe6f_24 rfl (lv_at hl 0 rfl) ?_
  refine j_getV C w wj_470 dJ5_append_3fe6f_25 ?_
  refine lv_aload_n C.1 C.2.1 dJ5_append_3fe6f_28 rfl (lv_at hl 0 rfl) ?_
  refine lv_dup C.1 C.2.1 dJ5_append_3fe6f_29 rfl ?_
  refine j_getN C w wj_473 dJ5_append_3fe6f_30 ?_
  refine lv_dup_x1 C.1 C.2.1 dJ5_append_3fe6f_33 rfl rfl ?_
  refine lv_iconst (v := 1) C.1 C.2.1 dJ5_append_3fe6f_34 (by decide) ?_
  refine lv_iadd C.1 C.2.1 dJ5_append_3fe6f_35 ?_
  rw [nI_1]
  refine j_putN C w wj_473 dJ5_append_3fe6f_36 (fun H locs w => ?_)
  refine lv_iload_n C.1 C.2.1 dJ5_append_3fe6f_39 rfl (lv_at hl 1 rfl) ?_
  refine lv_i2b (v := ch) C.1 C.2.1 dJ5_append_3fe6f_40 hch ?_
  refine j_bast C w (vp_in_nI (by omega) (by omega)) dJ5_append_3fe6f_41 (fun H locs w => ?_)
  refine lv_goto (tgt := 75) C.1 C.2.1 dJ5_append_3fe6f_42 (by decide) ?_
  refine lv_aload_n C.1 C.2.1 dJ5_append_3fe6f_75 rfl (lv_at hl 0 rfl) ?_
  refine W.cs (cells' := 1) (slots' := 286) rfl rfl ?_
  refine j_aret C w ⟨rfl, c1, c2, fun j hj => ?_⟩ hr (Or.inl ⟨_, rfl⟩) dJ5_append_3fe6f_76
  rw [nI_clamp (by omega), hch]
  unfold catJ upd
  by_cases h : j = t
  · rw [if_pos h, if_pos (by omega)]
  · rw [if_neg h, if_neg (by omega), c3 j (by omega)]
    exact hT j (by omega)
theorem m_appC {l : Launch} {D DJ : va_G} {cA : Nat → ClassId} {B : BA} {A : Nat → Prop} {b a N : Nat} {f : Nat → Int32} {T : Nat → Int32} {t : Nat} (hN : CPJ N) (ht : t ≤ N) (hT : ∀ j, j < t → f j = T j) {ch : Int32} (h255 : ch ≤ 255) (hch : ch.toInt8.toInt32 = ch) (h3 : t + 1 ≤ 286) : MJ l yJ4_append_cf468 cJ4_append_cf468 2 (some (.object "java/lang/StringBuilder")) 5 195 1 286 D DJ cA B A b a N (nI t) f [.int ch] (some (.ref b)) (fun _ N' n' f' => BTJ (catJ T t (fun _ => ch)) (t + 1) N' n' f') := by
  refine MJg.of (by decide +kernel) (Nat.le_of_ble_eq_true rfl) ?_
  intro p e s m args below meth c C hr hname w ls hl
  have hl : lv_has ls 2 [(0, .ref b), (1, .int ch)] := hl
  refine lv_aload_n C.1 C.2.1 dJ4_append_cf468_0 rfl (lv_at hl 0 rfl) ?_
  refine lv_iload_n C.1 C.2.1 dJ4_append_cf468_1 rfl (lv_at hl 1 rfl) ?_
  refine j_callU (np := 1) (As := [.int ch]) (rest := []) C w (m_asbC hN ht hT h255 hch h3) wj_827 wj_828 wj_1534 wj_482 wj_40 wj_829 ⟨by decide +kernel, rfl⟩ rfl ⟨(Nat.le_of_ble_eq_true rfl), (Nat.le_of_ble_eq_true rfl)⟩ rfl (Nat.le_of_ble_eq_true rfl) hl.1 ⟨(Nat.le_of_ble_eq_true rfl), (Nat.le_of_ble_eq_true rfl)⟩ dJ4_append_cf468_2 (fun H locs a9 N9 n9 f9 w h9 => ?_)
  refine lv_pop C.1 C.2.1 dJ4_append_cf468_5 rfl ?_
  refine lv_aload_n C.1 C.2.1 dJ4_append_cf468_6 rfl (lv_at hl 0 rfl) ?_
  refine W.cs (cells' := 1) (slots' := 286) rfl rfl ?_
  exact j_aret C w h9 hr (Or.inl ⟨_, rfl⟩) dJ4_append_cf468_7
theorem m_getBytes {l : Launch} {D DJ : va_G} {cA : Nat → ClassId} {B : BA} {A : Nat → Prop} {b a N : Nat} {f : Nat → Int32} {n : Int32} {t i : Nat} (hi : i < strL.length) (h1 : t + (strB i).length ≤ N) (h2 : N ≤ 286) : MJg l yJ0_getBytes_840e7 cJ0_getBytes_840e7 4 none 1 90 0 0 D DJ cA B A b a N n f [.ref (D.2 100 i), .ref a, .int (nI t), .int 0] none (fun a' N' n' f' => a = a' ∧ N = N' ∧ n = n' ∧ (∀ j, j < t → f' j = f j) ∧ ∀ j, j < (strB i).length → f' (t + j) = (strB i).getD j 0) := by
  refine MJg.of (by decide +kernel) (Nat.le_of_ble_eq_true rfl) ?_
  intro p e s m args below meth c C hr hname w ls hl
  have hl : lv_has ls 4 [(0, .ref (D.2 100 i)), (1, .ref a), (2, .int (nI t)), (3, .int 0)] := hl
  refine lv_aload_n C.1 C.2.1 dJ0_getBytes_840e7_0 rfl (lv_at hl 0 rfl) ?_
  refine j_callT (np := 0) (As := []) (rest := []) C w (m_coder hi) hi ml_J0_335 iy_coder sy_coder cy_coder ⟨rfl, by decide +kernel, by decide +kernel, by decide +kernel⟩ rfl ⟨(Nat.le_of_ble_eq_true rfl), (Nat.le_of_ble_eq_true rfl)⟩ rfl (Nat.le_of_ble_eq_true rfl) hl.1 ⟨Nat.le_refl _, Nat.le_refl _⟩ dJ0_getBytes_840e7_1 (fun H locs w => ?_)
  refine lv_iload_n C.1 C.2.1 dJ0_getBytes_840e7_4 rfl (lv_at hl 3 rfl) ?_
  refine lv_icmp_ne (tgt := 28) C.1 C.2.1 dJ0_getBytes_840e7_5 (by decide) (fun hc => absurd (rfl) hc) (fun _ => ?_)
  refine lv_aload_n C.1 C.2.1 dJ0_getBytes_840e7_8 rfl (lv_at hl 0 rfl) ?_
  refine vk_getf C.1 C.2.1 (C.2.2.2.2.2.2.2.2.2.2.at hi).2.2.1 w.1.wide C.2.2.2.1 (C.2.2.2.2.1 _ wf_J0_9) (fun _ h => h) dJ0_getBytes_840e7_9 ?_
  refine lv_iconst (v := 0) C.1 C.2.1 dJ0_getBytes_840e7_12 (by decide) ?_
  refine lv_aload_n C.1 C.2.1 dJ0_getBytes_840e7_13 rfl (lv_at hl 1 rfl) ?_
  refine lv_iload_n C.1 C.2.1 dJ0_getBytes_840e7_14 rfl (lv_at hl 2 rfl) ?_
  refine lv_iload_n C.1 C.2.1 dJ0_getBytes_840e7_15 rfl (lv_at hl 3 rfl) ?_
  refine lv_ishl C.1 C.2.1 dJ0_getBytes_840e7_16 ?_
  rw [jshl0]
  refine lv_aload_n C.1 C.2.1 dJ0_getBytes_840e7_17 rfl (lv_at hl 0 rfl) ?_
  refine vk_getf C.1 C.2.1 (C.2.2.2.2.2.2.2.2.2.2.at hi).2.2.1 w.1.wide C.2.2.2.1 (C.2.2.2.2.1 _ wf_J0_9) (fun _ h => h) dJ0_getBytes_840e7_18 ?_
  refine va_tlen (v := nI (strB i).length) C.1 C.2.1 (C.2.2.2.2.2.2.2.2.2.2.at hi).2.2.2 w.1.wide rfl dJ0_getBytes_840e7_21 ?_
  obtain ⟨cell, q1, q2, q3, q4, q5, q6, -⟩ := (C.2.2.2.2.2.2.2.2.2.2.at hi).2.2.2.kept w.1.wide.2.1
  refine j_copyA (N := (strB i).length) (M := N) C q1 q2 q3 (strB_fit hi) q6 w.2.1.2.1 (by decide) (nI_pos (by omega)) (nI_pos (by omega)) (by rw [nI_clamp (by omega)]; show 0 + _ ≤ _; omega) (by rw [nI_clamp (by omega), nI_clamp (by omega)]; omega) wj_796 hl.1 (Nat.le_of_ble_eq_true rfl) (Nat.le_of_ble_eq_true rfl) dJ0_getBytes_840e7_22 (fun H1 L c1 c2 c3 c4 => ?_)
  have w1 : JW D DJ cA B A b a N n (va_cpy (fun j => (strB i).getD j 0) f 0 t (strB i).length) s H1 (locs ++ L) := ⟨WS.s0 (va_S.put2 w.sv w.2.2.2.1 c2 c3 c4) w.1.2.2.2.2, ⟨w.2.1.1.kept (c3 b (Ne.symm w.2.1.2.2.1)), by
    rw [c1, nI_clamp (by omega), nI_clamp (by omega)]
    rfl, w.2.1.2.2.1, sb_fitC (strB_fit hi) w.2.1.2.2.2⟩, w.2.2⟩
  refine lv_goto (tgt := 43) C.1 C.2.1 dJ0_getBytes_840e7_25 (by decide) ?_
  exact j_vret C w1 ⟨rfl, rfl, rfl, fun j hj => pk_cpy_out (by omega), fun j hj => by
    show va_cpy _ _ _ _ _ _ = _
    rw [pk_cpy_in (by omega) (by omega)]
    congr 1
    omega⟩ hr dJ0_getBytes_840e7_43
theorem m_inflateIf {l : Launch} {D DJ : va_G} {cA : Nat → ClassId} {B : BA} {A : Nat → Prop} {b a N : Nat} {f : Nat → Int32} {n : Int32} {i : Nat} (hi : i < strL.length) : MJ l yJ5_inflateIfNeededFor_a7421 cJ5_inflateIfNeededFor_a7421 2 none 1 30 0 0 D DJ cA B A b a N n f [.ref (D.2 100 i)] none (fun a' N' n' f' => a = a' ∧ N = N' ∧ n = n' ∧ f = f') := by
  refine MJg.of (by decide +kernel) (Nat.le_of_ble_eq_true rfl) ?_
  intro p e s m args below meth c C hr hname w ls hl
  have hl : lv_has ls 2 [(0, .ref b), (1, .ref (D.2 100 i))] := hl
  refine va_gets C.1 C.2.1 C.2.2.2.2.2.2.2.2.1 w.1.wide C.2.2.2.1 (C.2.2.2.2.1 _ wj_461) (fun _ h => h) dJ5_inflateIfNeededFor_a7421_0 ?_
  refine lv_if_eq (tgt := 21) C.1 C.2.1 dJ5_inflateIfNeededFor_a7421_3 (by decide) (fun hc => absurd hc (by decide)) (fun _ => ?_)
  refine lv_aload_n C.1 C.2.1 dJ5_inflateIfNeededFor_a7421_6 rfl (lv_at hl 0 rfl) ?_
  refine j_getC C w wj_471 dJ5_inflateIfNeededFor_a7421_7 ?_
  refine lv_aload_n C.1 C.2.1 dJ5_inflateIfNeededFor_a7421_10 rfl (lv_at hl 1 rfl) ?_
  refine j_callT (np := 0) (As := []) (rest := [.int 0]) C w (m_coder hi) hi wj_772 iy_coder sy_coder cy_coder ⟨rfl, by decide +kernel, by decide +kernel, by decide +kernel⟩ rfl ⟨(Nat.le_of_ble_eq_true rfl), (Nat.le_of_ble_eq_true rfl)⟩ rfl (Nat.le_of_ble_eq_true rfl) hl.1 ⟨Nat.le_refl _, Nat.le_refl _⟩ dJ5_inflateIfNeededFor_a7421_11 (fun H locs w => ?_)
  refine lv_icmp_eq (tgt := 21) C.1 C.2.1 dJ5_inflateIfNeededFor_a7421_14 (by decide) (fun _ => ?_) (fun hc => absurd (rfl) hc)
  exact j_vret C w ⟨rfl, rfl, rfl, rfl⟩ hr dJ5_inflateIfNeededFor_a7421_21
theorem m_putStr {l : Launch} {D DJ : va_G} {cA : Nat → ClassId} {B : BA} {A : Nat → Prop} {b a N : Nat} {f : Nat → Int32} {n : Int32} {t i : Nat} (hi : i < strL.length) (h1 : t + (strB i).length ≤ N) (h2 : N ≤ 286) : MJ l yJ5_putStringAt_47b60 cJ5_putStringAt_47b60 3 none 2 130 0 0 D DJ cA B A b a N n f [.int (nI t), .ref (D.2 100 i)] none (fun a' N' n' f' => a = a' ∧ N = N' ∧ n = n' ∧ (∀ j, j < t → f' j = f j) ∧ ∀ j, j < (strB i).length → f' (t + j) = (strB i).getD j 0) := by
  refine MJg.of (by decide +kernel) (Nat.le_of_ble_eq_true rfl) ?_
  intro p e s m args below meth c C hr hname w ls hl
  have hl : lv_has ls 3 [(0, .ref b), (1, .int (nI t)), (2, .ref (D.2 100 i))] := hl
  refine lv_aload_n C.1 C.2.1 dJ5_putStringAt_47b60_0 rfl (lv_at hl 0 rfl) ?_
  refine lv_aload_n C.1 C.2.1 dJ5_putStringAt_47b60_1 rfl (lv_at hl 2 rfl) ?_
  refine j_callP (np := 1) (As := [.ref (D.2 100 i)]) (rest := []) C w (m_inflateIf hi) wj_768 wj_770 (by decide) rfl wj_771 rfl rfl ⟨(Nat.le_of_ble_eq_true rfl), (Nat.le_of_ble_eq_true rfl)⟩ rfl (Nat.le_of_ble_eq_true rfl) hl.1 ⟨(Nat.le_of_ble_eq_true rfl), (Nat.le_of_ble_eq_true rfl)⟩ dJ5_putStringAt_47b60_2 (fun H locs a9 N9 n9 f9 w h9 => ?_)
  obtain ⟨rfl, rfl, rfl, rfl⟩ := h9
  refine lv_aload_n C.1 C.2.1 dJ5_putStringAt_47b60_5 rfl (lv_at hl 2 rfl) ?_
  refine lv_aload_n C.1 C.2.1 dJ5_putStringAt_47b60_6 rfl (lv_at hl 0 rfl) ?_
  refine j_getV C w wj_470 dJ5_putStringAt_47b60_7 ?_
  refine lv_iload_n C.1 C.2.1 dJ5_putStringAt_47b60_10 rfl (lv_at hl 1 rfl) ?_
  refine lv_aload_n C.1 C.2.1 dJ5_putStringAt_47b60_11 rfl (lv_at hl 0 rfl) ?_
  refine j_getC C w wj_471 dJ5_putStringAt_47b60_12 ?_
  refine j_callTb (np := 3) (As := [.ref a, .int (nI t), .int 0]) (rest := []) C w (m_getBytes hi h1 h2) hi wj_792 wj_793 wj_794 wj_795 ⟨rfl, by decide +kernel, by decide +kernel, by decide +kernel⟩ rfl ⟨(Nat.le_of_ble_eq_true rfl), (Nat.le_of_ble_eq_true rfl)⟩ rfl (Nat.le_of_ble_eq_true rfl) hl.1 ⟨(Nat.le_of_ble_eq_true rfl), (Nat.le_of_ble_eq_true rfl)⟩ dJ5_putStringAt_47b60_15 (fun H locs a9 N9 n9 f9 w h9 => ?_)
  exact j_vret C w h9 hr dJ5_putStringAt_47b60_18
theorem m_asbS {l : Launch} {D DJ : va_G} {cA : Nat → ClassId} {B : BA} {A : Nat → Prop} {b a N : Nat} {f : Nat → Int32} {T : Nat → Int32} {t : Nat} (hN : CPJ N) (ht : t ≤ N) (hT : ∀ j, j < t → f j = T j) {i : Nat} (hi : i < strL.length) (h3 : t + (strB i).length ≤ 286) : MJ l yJ5_append_cf1ce cJ5_append_cf1ce 3 (some (.object "java/lang/AbstractStringBuilder")) 4 170 1 286 D DJ cA B A b a N (nI t) f [.ref (D.2 100 i)] (some (.ref b)) (fun _ N' n' f' => BTJ (catJ T t (fun j => (strB i).getD j 0)) (t + (strB i).length) N' n' f') := by
  have hN9 := hN.le
  have hi9 := strB_l8 hi
  have hN7 : 16 ≤ N := by
    unfold CPJ at hN
    omega
  refine MJg.of (by decide +kernel) (Nat.le_of_ble_eq_true rfl) ?_
  intro p e s m args below meth c C hr hname w ls hl
  have hl : lv_has ls 3 [(0, .ref b), (1, .ref (D.2 100 i))] := hl
  refine lv_aload_n C.1 C.2.1 dJ5_append_cf1ce_0 rfl (lv_at hl 1 rfl) ?_
  refine lv_ifnonnull (tgt := 9) C.1 C.2.1 dJ5_append_cf1ce_1 (by decide) ?_
  refine lv_aload_n C.1 C.2.1 dJ5_append_cf1ce_9 rfl (lv_at hl 1 rfl) ?_
  refine j_callT (np := 0) (As := []) (rest := []) C w (m_length hi) hi wj_755 iy_length sy_length cy_length ⟨rfl, by decide +kernel, by decide +kernel, by decide +kernel⟩ rfl ⟨(Nat.le_of_ble_eq_true rfl), (Nat.le_of_ble_eq_true rfl)⟩ rfl (Nat.le_of_ble_eq_true rfl) hl.1 ⟨(Nat.le_of_ble_eq_true rfl), (Nat.le_of_ble_eq_true rfl)⟩ dJ5_append_cf1ce_10 (fun H locs w => ?_)
  refine lv_istore_n (lv' := [(2, .int (nI (strB i).length)), (0, .ref b), (1, .ref (D.2 100 i))]) C.1 C.2.1 dJ5_append_cf1ce_13 rfl hl (by decide) rfl (fun ls hl => ?_)
  refine lv_aload_n C.1 C.2.1 dJ5_append_cf1ce_14 rfl (lv_at hl 1 rfl) ?_
  refine lv_aload_n C.1 C.2.1 dJ5_append_cf1ce_15 rfl (lv_at hl 1 rfl) ?_
  refine j_getN C w wj_473 dJ5_append_cf1ce_16 ?_
  refine lv_iload_n C.1 C.2.1 dJ5_append_cf1ce_19 rfl (lv_at hl 0 rfl) ?_
  refine lv_iadd C.1 C.2.1 dJ5_append_cf1ce_20 ?_
  rw [nI_add]
  refine j_callP (np := 1) (As := [.int (nI (t + (strB i).length))]) (rest := []) C w (m_ensure hN (by omega) (by omega)) wj_689 wj_691 (by decide) rfl wj_692 rfl rfl ⟨(Nat.le_of_ble_eq_true rfl), (Nat.le_of_ble_eq_true rfl)⟩ rfl (Nat.le_of_ble_eq_true rfl) hl.1 ⟨(Nat.le_of_ble_eq_true rfl), (Nat.le_of_ble_eq_true rfl)⟩ dJ5_append_cf1ce_21 (fun H locs a9 N9 n9 f9 w h9 => ?_)
  obtain ⟨rfl, c1, c2, c3⟩ := h9
  have c4 := c1.le
  refine lv_aload_n C.1 C.2.1 dJ5_append_cf1ce_24 rfl (lv_at hl 1 rfl) ?_
  refine lv_aload_n C.1 C.2.1 dJ5_append_cf1ce_25 rfl (lv_at hl 1 rfl) ?_
  refine j_getN C w wj_473 dJ5_append_cf1ce_26 ?_
  refine lv_aload_n C.1 C.2.1 dJ5_append_cf1ce_29 rfl (lv_at hl 2 rfl) ?_
  refine j_callP (np := 2) (As := [.int (nI t), .ref (D.2 100 i)]) (rest := []) C w (m_putStr hi c2 c4) wj_764 wj_766 (by decide) rfl wj_767 rfl rfl ⟨(Nat.le_of_ble_eq_true rfl), (Nat.le_of_ble_eq_true rfl)⟩ rfl (Nat.le_of_ble_eq_true rfl) hl.1 ⟨(Nat.le_of_ble_eq_true rfl), (Nat.le_of_ble_eq_true rfl)⟩ dJ5_append_cf1ce_30 (fun H locs a8 N8 n8 f8 w h8 => ?_)
  obtain ⟨rfl, rfl, rfl, d1, d2⟩ := h8
  refine lv_aload_n C.1 C.2.1 dJ5_append_cf1ce_33 rfl (lv_at hl 1 rfl) ?_
  refine lv_dup C.1 C.2.1 dJ5_append_cf1ce_34 rfl ?_
  refine j_getN C w wj_473 dJ5_append_cf1ce_35 ?_
  refine lv_iload_n C.1 C.2.1 dJ5_append_cf1ce_38 rfl (lv_at hl 0 rfl) ?_
  refine lv_iadd C.1 C.2.1 dJ5_append_cf1ce_39 ?_
  rw [nI_add]
  refine j_putN C w wj_473 dJ5_append_cf1ce_40 (fun H locs w => ?_)
  refine lv_aload_n C.1 C.2.1 dJ5_append_cf1ce_43 rfl (lv_at hl 1 rfl) ?_
  refine W.cs (cells' := 1) (slots' := 286) rfl rfl ?_
  refine j_aret C w ⟨rfl, c1, c2, fun j hj => ?_⟩ hr (Or.inl ⟨_, rfl⟩) dJ5_append_cf1ce_44
  unfold catJ
  by_cases h : t ≤ j
  · rw [if_pos h]
    have := d2 (j - t) (by omega)
    rw [show t + (j - t) = j by omega] at this
    exact this
  · rw [if_neg h, d1 j (by omega), c3 j (by omega)]
    exact hT j (by omega)
theorem m_appS {l : Launch} {D DJ : va_G} {cA : Nat → ClassId} {B : BA} {A : Nat → Prop} {b a N : Nat} {f : Nat → Int32} {T : Nat → Int32} {t : Nat} (hN : CPJ N) (ht : t ≤ N) (hT : ∀ j, j < t → f j = T j) {i : Nat} (hi : i < strL.length) (h3 : t + (strB i).length ≤ 286) : MJ l yJ4_append_15ec4 cJ4_append_15ec4 2 (some (.object "java/lang/StringBuilder")) 5 195 1 286 D DJ cA B A b a N (nI t) f [.ref (D.2 100 i)] (some (.ref b)) (fun _ N' n' f' => BTJ (catJ T t (fun j => (strB i).getD j 0)) (t + (strB i).length) N' n' f') := by
  refine MJg.of (by decide +kernel) (Nat.le_of_ble_eq_true rfl) ?_
  intro p e s m args below meth c C hr hname w ls hl
  have hl : lv_has ls 2 [(0, .ref b), (1, .ref (D.2 100 i))] := hl
  refine lv_aload_n C.1 C.2.1 dJ4_append_15ec4_0 rfl (lv_at hl 0 rfl) ?_
  refine lv_aload_n C.1 C.2.1 dJ4_append_15ec4_1 rfl (lv_at hl 1 rfl) ?_
  refine j_callU (np := 1) (As := [.ref (D.2 100 i)]) (rest := []) C w (m_asbS hN ht hT hi h3) wj_682 wj_683 wj_1526 wj_482 wj_40 wj_684 ⟨by decide +kernel, rfl⟩ rfl ⟨(Nat.le_of_ble_eq_true rfl), (Nat.le_of_ble_eq_true rfl)⟩ rfl (Nat.le_of_ble_eq_true rfl) hl.1 ⟨(Nat.le_of_ble_eq_true rfl), (Nat.le_of_ble_eq_true rfl)⟩ dJ4_append_15ec4_2 (fun H locs a9 N9 n9 f9 w h9 => ?_)
  refine lv_pop C.1 C.2.1 dJ4_append_15ec4_5 rfl ?_
  refine lv_aload_n C.1 C.2.1 dJ4_append_15ec4_6 rfl (lv_at hl 0 rfl) ?_
  refine W.cs (cells' := 1) (slots' := 286) rfl rfl ?_
  exact j_aret C w h9 hr (Or.inl ⟨_, rfl⟩) dJ4_append_15ec4_7
