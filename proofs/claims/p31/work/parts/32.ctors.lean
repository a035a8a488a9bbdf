set_option maxHeartbeats 8000000 in
set_option maxRecDepth 100000 in
theorem m_X6_init {l : Launch} {D : va_G} {cA : Nat → ClassId} {B : BA} {n0 : Nat} {th : Nat} {σ : GS} {o : GS} (hth : th < n0) (kth : kdG th = 6) (h0 : F_X6_init σ n0 th = some o) : MN l yX6_init cX6_init 1 1 20 2 124 D cA B [.ref (B.1 th)] n0 σ (n0 + 2) o := by
  refine MN.of (by decide +kernel) (Nat.le_of_ble_eq_true rfl) ?_
  intro p e s m args below meth c C hr hname w ls hl
  have hco := w.2.1
  have hl : lv_has ls 1 [(0, .ref (B.1 th))] := hl
  have h := h0
  unfold F_X6_init at h
  refine lv_aload_n C.1 C.2.1 dX6_init_0 rfl (lv_at hl 0 rfl) ?_
  refine gn_obj C hl.1 mo_X6 im_obj cy_obj (Nat.le_of_ble_eq_true rfl) (Nat.le_of_ble_eq_true rfl) dX6_init_1 ?_
  refine lv_aload_n C.1 C.2.1 dX6_init_4 rfl (lv_at hl 0 rfl) ?_
  refine lv_iconst (v := 4) C.1 C.2.1 dX6_init_5 (by decide) ?_
  obtain ⟨⟨hk1, hln, hbc, hbs⟩, h⟩ := g_ob h
  refine gn_newa (N := 4) C w hk1 hln (by decide) (by decide) rfl (fun _ h => FieldType.noConfusion h) ac_int (by decide) rfl (by decide) (by show _ ≤ 2; omega) (by show _ ≤ 124; omega) dX6_init_6 (fun H w => ?_)
  refine gn_putR C w ff_X6_9 hname (by omega) kth (by decide) (fun _ _ _ => rfl) (fun _ => rfl) (fun _ => rfl) dX6_init_8 (fun H locs w => ?_)
  refine lv_aload_n C.1 C.2.1 dX6_init_11 rfl (lv_at hl 0 rfl) ?_
  refine lv_bipush (v := 120) C.1 C.2.1 dX6_init_12 (by decide) ?_
  obtain ⟨⟨hk4, hln, hbc, hbs⟩, h⟩ := g_ob h
  refine gn_newa (N := 120) C w hk4 hln (by decide) (by decide) rfl (fun _ h => FieldType.noConfusion h) ac_int (by decide) rfl (by decide) (by show _ ≤ 2; omega) (by show _ ≤ 124; omega) dX6_init_14 (fun H w => ?_)
  refine gn_putR C w ff_X6_15 hname (by omega) kth (by decide) (fun _ _ _ => rfl) (fun _ => rfl) (fun _ => rfl) dX6_init_16 (fun H locs w => ?_)
  obtain ⟨⟨hen, hes⟩, h⟩ := g_ob h
  refine W.widen (k := 2) (n := 124) (by omega) (by omega) ?_
  exact gn_retE C w hen hr dX6_init_19 h

set_option maxHeartbeats 8000000 in
set_option maxRecDepth 100000 in
theorem m_X1_init {l : Launch} {D : va_G} {cA : Nat → ClassId} {B : BA} {n0 : Nat} {th : Nat} {σ : GS} {o : GS} (hth : th < n0) (kth : kdG th = 1) (h0 : F_X1_init σ n0 th = some o) : MN l yX1_init cX1_init 2 3 65 16 556 D cA B [.ref (B.1 th)] n0 σ (n0 + 16) o := by
  refine MN.of (by decide +kernel) (Nat.le_of_ble_eq_true rfl) ?_
  intro p e s m args below meth c C hr hname w ls hl
  have hco := w.2.1
  have hl : lv_has ls 2 [(0, .ref (B.1 th))] := hl
  have B_37 : ∀ (k : Nat) (σ : GS) (n m9 : Nat) (v1 : Int32) (H : Heap) (locs : List Loc) (ls : Array Slot), L_X1_init_37 n0 th k σ n m9 v1 = some o → n0 ≤ n → WN D cA B n σ s H locs → lv_has ls 2 [(0, .ref (B.1 th)), (1, .int v1)] → W p l e (rmN 3 65 16 556) s m args below meth c H locs (n - n0) m9 (MQ below (QN D cA B (n0 + 16) o) args s 16 556 (BB B)) (F0 m 37 ls []) := by
    intro k
    induction k with
    | zero => intro σ n m9 v1 H locs ls h; exact nomatch (show (none : Option GS) = some o from h)
    | succ k ih =>
      intro σ n m9 v1 H locs ls h hn w hl
      unfold L_X1_init_37 at h
      refine lv_iload_n C.1 C.2.1 dX1_init_37 rfl (lv_at hl 1 rfl) ?_
      refine lv_aload_n C.1 C.2.1 dX1_init_38 rfl (lv_at hl 0 rfl) ?_
      obtain ⟨⟨hg, hl13⟩, h⟩ := g_ob h
      refine gn_getR C w fl_X1_23 (by omega) kth (by decide) hg (fun _ _ _ => rfl) dX1_init_39 ?_
      refine gn_alen C w (by omega) (kt_1_3 _ kth).2 (by decide) (by decide) dX1_init_42 ?_
      refine lv_icmp_ge (tgt := 65) C.1 C.2.1 dX1_init_43 (by decide) (fun hc => ?_) (fun hc => ?_)
      · have h := (if_pos hc).symm.trans h
        refine lv_aload_n C.1 C.2.1 dX1_init_65 rfl (lv_at hl 0 rfl) ?_
        obtain ⟨⟨hrr, hlt, hmem, hbc, hbs⟩, h⟩ := g_ob h
        obtain ⟨o14, ho14, h⟩ := g_bd h
        refine gn_call (lst := (List.range 17).map (fun j => th + j)) (np := 0) (As := []) (rest := []) C w (m_X1_clear hmem kth ho14) (RRc.rr hrr) hlt (g_sz hco w.2.1 (by omega) (by omega)) (cl_1).1 hmem kth (by decide) ml_X1_28 iy_X1_clear sy_X1_clear in_X1 cy_X1_clear ⟨rfl, by decide +kernel, by decide +kernel, by decide +kernel⟩ rfl ⟨Nat.le_of_ble_eq_true rfl, Nat.le_of_ble_eq_true rfl⟩ rfl (Nat.le_of_ble_eq_true rfl) hl.1 ⟨by show _ ≤ 16; omega, by show _ ≤ 556; omega⟩ dX1_init_66 (fun H locs w => ?_)
        obtain ⟨⟨hen, hes⟩, h⟩ := g_ob h
        refine W.widen (k := 16) (n := 556) (by omega) (by omega) ?_
        exact gn_retE C w hen hr dX1_init_69 h
      · have h := (if_neg hc).symm.trans h
        refine lv_aload_n C.1 C.2.1 dX1_init_46 rfl (lv_at hl 0 rfl) ?_
        obtain ⟨⟨hg, hl16⟩, h⟩ := g_ob h
        refine gn_getR C w fl_X1_23 (by omega) kth (by decide) hg (fun _ _ _ => rfl) dX1_init_47 ?_
        refine lv_iload_n C.1 C.2.1 dX1_init_50 rfl (lv_at hl 1 rfl) ?_
        obtain ⟨⟨hk17, hbc, hbs⟩, h⟩ := g_ob h
        refine gn_new C w hk17 (by decide) cl_6 clk_X1_21 ins_X6 in_X6 (show nF 6 = 9 from rfl) (by show _ ≤ 16; omega) (by show _ + 9 ≤ 556; omega) dX1_init_51 (fun H w => ?_)
        refine lv_dup C.1 C.2.1 dX1_init_54 rfl ?_
        obtain ⟨⟨hbc, hbs⟩, h⟩ := g_ob h
        obtain ⟨o19, ho19, h⟩ := g_bd h
        refine gn_initN (np := 0) (As := []) (rest := [.ref (B.1 n), .int v1, .ref (B.1 (rfG th 3))]) C w (m_X6_init (by omega) hk17 ho19) nl_X1_27 iy_X6_init in_X6 cy_X6_init rfl ⟨by decide +kernel, by decide +kernel, by decide +kernel⟩ rfl ⟨Nat.le_of_ble_eq_true rfl, Nat.le_of_ble_eq_true rfl⟩ rfl (Nat.le_of_ble_eq_true rfl) hl.1 ⟨by show _ ≤ 16; omega, by show _ ≤ 556; omega⟩ dX1_init_55 (fun H locs w => ?_)
        obtain ⟨hb, h⟩ := g_ob h
        refine gn_aast C w (by omega) (kt_1_3 _ kth).2 (by decide) (by decide) rfl (by omega) hk17 (by decide) (cl_6).1 hb dX1_init_58 (fun H locs w => ?_)
        refine lv_iinc (k := 1) (v := v1 + 1) (lv' := [(1, .int (v1 + 1)), (0, .ref (B.1 th))]) C.1 C.2.1 dX1_init_59 hl rfl rfl (by decide) rfl (fun ls hl => ?_)
        refine lv_goto (tgt := 37) C.1 C.2.1 dX1_init_62 (by decide) ?_
        refine W.cs (cells' := (n + 1 + 2) - n0) (slots' := m9 + 9 + 124) (by omega) (by omega) ?_
        exact ih _ _ _ _ _ _ _ h (by omega) w (show lv_has ls 2 [(0, .ref (B.1 th)), (1, .int (v1 + 1))] from lv_sub hl [1, 0] rfl)
  have h := h0
  unfold F_X1_init at h
  refine lv_aload_n C.1 C.2.1 dX1_init_0 rfl (lv_at hl 0 rfl) ?_
  refine gn_obj C hl.1 mo_X1 im_obj cy_obj (Nat.le_of_ble_eq_true rfl) (Nat.le_of_ble_eq_true rfl) dX1_init_1 ?_
  refine lv_aload_n C.1 C.2.1 dX1_init_4 rfl (lv_at hl 0 rfl) ?_
  refine lv_bipush (v := 8) C.1 C.2.1 dX1_init_5 (by decide) ?_
  obtain ⟨⟨hk1, hln, hbc, hbs⟩, h⟩ := g_ob h
  refine gn_newa (N := 8) C w hk1 hln (by decide) (by decide) rfl (fun _ h => FieldType.noConfusion h) ac_int (by decide) rfl (by decide) (by show _ ≤ 16; omega) (by show _ ≤ 556; omega) dX1_init_7 (fun H w => ?_)
  refine gn_putR C w ff_X1_9 hname (by omega) kth (by decide) (fun _ _ _ => rfl) (fun _ => rfl) (fun _ => rfl) dX1_init_9 (fun H locs w => ?_)
  refine lv_aload_n C.1 C.2.1 dX1_init_12 rfl (lv_at hl 0 rfl) ?_
  refine lv_bipush (v := 8) C.1 C.2.1 dX1_init_13 (by decide) ?_
  obtain ⟨⟨hk4, hln, hbc, hbs⟩, h⟩ := g_ob h
  refine gn_newa (N := 8) C w hk4 hln (by decide) (by decide) rfl (fun _ h => FieldType.noConfusion h) ac_int (by decide) rfl (by decide) (by show _ ≤ 16; omega) (by show _ ≤ 556; omega) dX1_init_15 (fun H w => ?_)
  refine gn_putR C w ff_X1_15 hname (by omega) kth (by decide) (fun _ _ _ => rfl) (fun _ => rfl) (fun _ => rfl) dX1_init_17 (fun H locs w => ?_)
  refine lv_aload_n C.1 C.2.1 dX1_init_20 rfl (lv_at hl 0 rfl) ?_
  refine lv_iconst (v := 4) C.1 C.2.1 dX1_init_21 (by decide) ?_
  obtain ⟨⟨hk7, hln, hbc, hbs⟩, h⟩ := g_ob h
  refine gn_newa (N := 4) C w hk7 hln (by decide) (by decide) rfl (fun _ h => FieldType.noConfusion h) ac_int (by decide) rfl (by decide) (by show _ ≤ 16; omega) (by show _ ≤ 556; omega) dX1_init_22 (fun H w => ?_)
  refine gn_putR C w ff_X1_18 hname (by omega) kth (by decide) (fun _ _ _ => rfl) (fun _ => rfl) (fun _ => rfl) dX1_init_24 (fun H locs w => ?_)
  refine lv_aload_n C.1 C.2.1 dX1_init_27 rfl (lv_at hl 0 rfl) ?_
  refine lv_iconst (v := 4) C.1 C.2.1 dX1_init_28 (by decide) ?_
  obtain ⟨⟨hk10, hln, hbc, hbs⟩, h⟩ := g_ob h
  refine gn_newq (N := 4) C w hk10 hln (by decide) (by decide) rfl clk_X1_21 (by decide +kernel) (by decide) rfl (by decide) (by show _ ≤ 16; omega) (by show _ ≤ 556; omega) dX1_init_29 (fun H w => ?_)
  refine gn_putR C w ff_X1_23 hname (by omega) kth (by decide) (fun _ _ _ => rfl) (fun _ => rfl) (fun _ => rfl) dX1_init_32 (fun H locs w => ?_)
  refine lv_iconst (v := 0) C.1 C.2.1 dX1_init_35 (by decide) ?_
  refine lv_istore_n (lv' := [(1, .int 0), (0, .ref (B.1 th))]) C.1 C.2.1 dX1_init_36 rfl hl (by decide) rfl (fun ls hl => ?_)
  refine W.cs (cells' := (n0 + 1 + 1 + 1 + 1) - n0) (slots' := 0 + 8 + 8 + 4 + 4) (by omega) (by omega) ?_
  exact B_37 _ _ _ _ _ _ _ _ h (by omega) w (show lv_has ls 2 [(0, .ref (B.1 th)), (1, .int 0)] from lv_sub hl [1, 0] rfl)

set_option maxHeartbeats 8000000 in
set_option maxRecDepth 100000 in
theorem m_X3_init {l : Launch} {D : va_G} {cA : Nat → ClassId} {B : BA} {n0 : Nat} {th : Nat} {a1 : Nat} {a2 : Nat} {σ : GS} {o : GS} (hth : th < n0) (kth : kdG th = 3) (ha1 : a1 < n0) (ka1 : kdG a1 = 1) (ha2 : a2 < n0) (ka2 : kdG a2 = 6) (h0 : F_X3_init σ n0 th a1 a2 = some o) : MN l yX3_init cX3_init 3 1 21 3 90 D cA B [.ref (B.1 th), .ref (B.1 a1), .ref (B.1 a2)] n0 σ (n0 + 3) o := by
  refine MN.of (by decide +kernel) (Nat.le_of_ble_eq_true rfl) ?_
  intro p e s m args below meth c C hr hname w ls hl
  have hco := w.2.1
  have hl : lv_has ls 3 [(0, .ref (B.1 th)), (1, .ref (B.1 a1)), (2, .ref (B.1 a2))] := hl
  have h := h0
  unfold F_X3_init at h
  refine lv_aload_n C.1 C.2.1 dX3_init_0 rfl (lv_at hl 0 rfl) ?_
  refine gn_obj C hl.1 mo_X3 im_obj cy_obj (Nat.le_of_ble_eq_true rfl) (Nat.le_of_ble_eq_true rfl) dX3_init_1 ?_
  refine lv_aload_n C.1 C.2.1 dX3_init_4 rfl (lv_at hl 0 rfl) ?_
  refine lv_bipush (v := 30) C.1 C.2.1 dX3_init_5 (by decide) ?_
  obtain ⟨⟨hk1, hln, hbc, hbs⟩, h⟩ := g_ob h
  refine gn_newa (N := 30) C w hk1 hln (by decide) (by decide) rfl (fun _ h => FieldType.noConfusion h) ac_int (by decide) rfl (by decide) (by show _ ≤ 3; omega) (by show _ ≤ 90; omega) dX3_init_7 (fun H w => ?_)
  refine gn_putR C w ff_X3_9 hname (by omega) kth (by decide) (fun _ _ _ => rfl) (fun _ => rfl) (fun _ => rfl) dX3_init_9 (fun H locs w => ?_)
  refine lv_aload_n C.1 C.2.1 dX3_init_12 rfl (lv_at hl 0 rfl) ?_
  refine lv_bipush (v := 30) C.1 C.2.1 dX3_init_13 (by decide) ?_
  obtain ⟨⟨hk4, hln, hbc, hbs⟩, h⟩ := g_ob h
  refine gn_newa (N := 30) C w hk4 hln (by decide) (by decide) rfl (fun _ h => FieldType.noConfusion h) ac_int (by decide) rfl (by decide) (by show _ ≤ 3; omega) (by show _ ≤ 90; omega) dX3_init_15 (fun H w => ?_)
  refine gn_putR C w ff_X3_15 hname (by omega) kth (by decide) (fun _ _ _ => rfl) (fun _ => rfl) (fun _ => rfl) dX3_init_17 (fun H locs w => ?_)
  refine lv_aload_n C.1 C.2.1 dX3_init_20 rfl (lv_at hl 0 rfl) ?_
  refine lv_bipush (v := 30) C.1 C.2.1 dX3_init_21 (by decide) ?_
  obtain ⟨⟨hk7, hln, hbc, hbs⟩, h⟩ := g_ob h
  refine gn_newa (N := 30) C w hk7 hln (by decide) (by decide) rfl (fun _ h => FieldType.noConfusion h) ac_int (by decide) rfl (by decide) (by show _ ≤ 3; omega) (by show _ ≤ 90; omega) dX3_init_23 (fun H w => ?_)
  refine gn_putR C w ff_X3_18 hname (by omega) kth (by decide) (fun _ _ _ => rfl) (fun _ => rfl) (fun _ => rfl) dX3_init_25 (fun H locs w => ?_)
  refine lv_aload_n C.1 C.2.1 dX3_init_28 rfl (lv_at hl 0 rfl) ?_
  refine lv_aload_n C.1 C.2.1 dX3_init_29 rfl (lv_at hl 1 rfl) ?_
  refine gn_putR C w ff_X3_21 hname (by omega) kth (by decide) (fun _ _ _ => rfl) (fun _ => rfl) (fun _ => rfl) dX3_init_30 (fun H locs w => ?_)
  refine lv_aload_n C.1 C.2.1 dX3_init_33 rfl (lv_at hl 0 rfl) ?_
  refine lv_aload_n C.1 C.2.1 dX3_init_34 rfl (lv_at hl 2 rfl) ?_
  refine gn_putR C w ff_X3_25 hname (by omega) kth (by decide) (fun _ _ _ => rfl) (fun _ => rfl) (fun _ => rfl) dX3_init_35 (fun H locs w => ?_)
  refine lv_aload_n C.1 C.2.1 dX3_init_38 rfl (lv_at hl 0 rfl) ?_
  refine lv_iconst (v := 0) C.1 C.2.1 dX3_init_39 (by decide) ?_
  obtain ⟨⟨hrr, hlt, hmem, hbc, hbs⟩, h⟩ := g_ob h
  obtain ⟨o12, ho12, h⟩ := g_bd h
  refine gn_call (lst := (List.range 17).map (fun j => a1 + j) ++ (List.range 4).map (fun j => th + j)) (np := 1) (As := [.int 0]) (rest := []) C w (m_X3_begin hmem kth ho12) (RRc.rr hrr) hlt (g_sz hco w.2.1 (by omega) (by omega)) (cl_3).1 hmem kth (by decide) ml_X3_29 iy_X3_begin sy_X3_begin in_X3 cy_X3_begin ⟨rfl, by decide +kernel, by decide +kernel, by decide +kernel⟩ rfl ⟨Nat.le_of_ble_eq_true rfl, Nat.le_of_ble_eq_true rfl⟩ rfl (Nat.le_of_ble_eq_true rfl) hl.1 ⟨by show _ ≤ 3; omega, by show _ ≤ 90; omega⟩ dX3_init_40 (fun H locs w => ?_)
  obtain ⟨⟨hen, hes⟩, h⟩ := g_ob h
  refine W.widen (k := 3) (n := 90) (by omega) (by omega) ?_
  exact gn_retE C w hen hr dX3_init_43 h

set_option maxHeartbeats 8000000 in
set_option maxRecDepth 100000 in
theorem m_X5_init {l : Launch} {D : va_G} {cA : Nat → ClassId} {B : BA} {n0 : Nat} {th : Nat} {a1 : Nat} {σ : GS} {o : GS} (hth : th < n0) (kth : kdG th = 5) (ha1 : a1 < n0) (ka1 : kdG a1 = 1) (h0 : F_X5_init σ n0 th a1 = some o) : MN l yX5_init cX5_init 3 2 43 18 448 D cA B [.ref (B.1 th), .ref (B.1 a1)] n0 σ (n0 + 18) o := by
  refine MN.of (by decide +kernel) (Nat.le_of_ble_eq_true rfl) ?_
  intro p e s m args below meth c C hr hname w ls hl
  have hco := w.2.1
  have hl : lv_has ls 3 [(0, .ref (B.1 th)), (1, .ref (B.1 a1))] := hl
  have B_32 : ∀ (k : Nat) (σ : GS) (n m9 : Nat) (v2 : Int32) (H : Heap) (locs : List Loc) (ls : Array Slot), L_X5_init_32 n0 th a1 k σ n m9 v2 = some o → n0 ≤ n → WN D cA B n σ s H locs → lv_has ls 3 [(0, .ref (B.1 th)), (1, .ref (B.1 a1)), (2, .int v2)] → W p l e (rmN 2 43 18 448) s m args below meth c H locs (n - n0) m9 (MQ below (QN D cA B (n0 + 18) o) args s 18 448 (BB B)) (F0 m 32 ls []) := by
    intro k
    induction k with
    | zero => intro σ n m9 v2 H locs ls h; exact nomatch (show (none : Option GS) = some o from h)
    | succ k ih =>
      intro σ n m9 v2 H locs ls h hn w hl
      unfold L_X5_init_32 at h
      refine lv_iload_n C.1 C.2.1 dX5_init_32 rfl (lv_at hl 2 rfl) ?_
      refine lv_aload_n C.1 C.2.1 dX5_init_33 rfl (lv_at hl 0 rfl) ?_
      obtain ⟨⟨hg, hl9⟩, h⟩ := g_ob h
      refine gn_getR C w fl_X5_17 (by omega) kth (by decide) hg (fun _ _ _ => rfl) dX5_init_34 ?_
      refine gn_alen C w (by omega) (kt_5_2 _ kth).2 (by decide) (by decide) dX5_init_37 ?_
      refine lv_icmp_ge (tgt := 76) C.1 C.2.1 dX5_init_38 (by decide) (fun hc => ?_) (fun hc => ?_)
      · have h := (if_pos hc).symm.trans h
        obtain ⟨⟨hen, hes⟩, h⟩ := g_ob h
        refine W.widen (k := 18) (n := 448) (by omega) (by omega) ?_
        exact gn_retE C w hen hr dX5_init_76 h
      · have h := (if_neg hc).symm.trans h
        refine lv_iload_n C.1 C.2.1 dX5_init_41 rfl (lv_at hl 2 rfl) ?_
        refine lv_aload_n C.1 C.2.1 dX5_init_42 rfl (lv_at hl 1 rfl) ?_
        obtain ⟨⟨hg, hl10⟩, h⟩ := g_ob h
        refine gn_getR C w fl_X5_29 (by omega) ka1 (by decide) hg (fun _ _ _ => rfl) dX5_init_43 ?_
        refine gn_alen C w (by omega) (kt_1_3 _ ka1).2 (by decide) (by decide) dX5_init_46 ?_
        refine lv_icmp_ge (tgt := 76) C.1 C.2.1 dX5_init_47 (by decide) (fun hc => ?_) (fun hc => ?_)
        · have h := (if_pos hc).symm.trans h
          obtain ⟨⟨hen, hes⟩, h⟩ := g_ob h
          refine W.widen (k := 18) (n := 448) (by omega) (by omega) ?_
          exact gn_retE C w hen hr dX5_init_76 h
        · have h := (if_neg hc).symm.trans h
          refine lv_aload_n C.1 C.2.1 dX5_init_50 rfl (lv_at hl 0 rfl) ?_
          obtain ⟨⟨hg, hl11⟩, h⟩ := g_ob h
          refine gn_getR C w fl_X5_17 (by omega) kth (by decide) hg (fun _ _ _ => rfl) dX5_init_51 ?_
          refine lv_iload_n C.1 C.2.1 dX5_init_54 rfl (lv_at hl 2 rfl) ?_
          obtain ⟨⟨hk12, hbc, hbs⟩, h⟩ := g_ob h
          refine gn_new C w hk12 (by decide) cl_3 clk_X5_15 ins_X3 in_X3 (show nF 3 = 19 from rfl) (by show _ ≤ 18; omega) (by show _ + 19 ≤ 448; omega) dX5_init_55 (fun H w => ?_)
          refine lv_dup C.1 C.2.1 dX5_init_58 rfl ?_
          refine lv_aload_n C.1 C.2.1 dX5_init_59 rfl (lv_at hl 1 rfl) ?_
          refine lv_aload_n C.1 C.2.1 dX5_init_60 rfl (lv_at hl 1 rfl) ?_
          obtain ⟨⟨hg, hl14⟩, h⟩ := g_ob h
          refine gn_getR C w fl_X5_29 (by omega) ka1 (by decide) hg (fun _ _ _ => rfl) dX5_init_61 ?_
          refine lv_iload_n C.1 C.2.1 dX5_init_64 rfl (lv_at hl 2 rfl) ?_
          obtain ⟨⟨hb15, hg, hl15⟩, h⟩ := g_ob h
          refine gn_aald C w (by omega) (kt_1_3 _ ka1).2 (by decide) (by decide) rfl rfl (fun _ _ _ _ => rfl) hb15 hg dX5_init_65 ?_
          obtain ⟨⟨hbc, hbs⟩, h⟩ := g_ob h
          obtain ⟨o16, ho16, h⟩ := g_bd h
          refine gn_init (np := 2) (As := [.ref (B.1 a1), .ref (B.1 (rfG (rfG a1 3) v2.toNatClampNeg))]) (rest := [.ref (B.1 n), .int v2, .ref (B.1 (rfG th 2))]) C w (m_X3_init (by omega) hk12 (by omega) ka1 (by omega) (kr_15 _ (kt_1_3 _ ka1).2 _ (Nat.not_le.mp fun q => hb15 (Or.inr q))).2 ho16) ml_X5_35 iy_X3_init in_X3 cy_X3_init rfl ⟨by decide +kernel, by decide +kernel, by decide +kernel⟩ rfl ⟨Nat.le_of_ble_eq_true rfl, Nat.le_of_ble_eq_true rfl⟩ rfl (Nat.le_of_ble_eq_true rfl) hl.1 ⟨by show _ ≤ 18; omega, by show _ ≤ 448; omega⟩ dX5_init_66 (fun H locs w => ?_)
          obtain ⟨hb, h⟩ := g_ob h
          refine gn_aast C w (by omega) (kt_5_2 _ kth).2 (by decide) (by decide) rfl (by omega) hk12 (by decide) (cl_3).1 hb dX5_init_69 (fun H locs w => ?_)
          refine lv_iinc (k := 2) (v := v2 + 1) (lv' := [(2, .int (v2 + 1)), (0, .ref (B.1 th)), (1, .ref (B.1 a1))]) C.1 C.2.1 dX5_init_70 hl rfl rfl (by decide) rfl (fun ls hl => ?_)
          refine lv_goto (tgt := 32) C.1 C.2.1 dX5_init_73 (by decide) ?_
          refine W.cs (cells' := (n + 1 + 3) - n0) (slots' := m9 + 19 + 90) (by omega) (by omega) ?_
          exact ih _ _ _ _ _ _ _ h (by omega) w (show lv_has ls 3 [(0, .ref (B.1 th)), (1, .ref (B.1 a1)), (2, .int (v2 + 1))] from lv_sub hl [1, 2, 0] rfl)
  have h := h0
  unfold F_X5_init at h
  refine lv_aload_n C.1 C.2.1 dX5_init_0 rfl (lv_at hl 0 rfl) ?_
  refine gn_obj C hl.1 mo_X5 im_obj cy_obj (Nat.le_of_ble_eq_true rfl) (Nat.le_of_ble_eq_true rfl) dX5_init_1 ?_
  refine lv_aload_n C.1 C.2.1 dX5_init_4 rfl (lv_at hl 0 rfl) ?_
  refine lv_bipush (v := 8) C.1 C.2.1 dX5_init_5 (by decide) ?_
  obtain ⟨⟨hk1, hln, hbc, hbs⟩, h⟩ := g_ob h
  refine gn_newa (N := 8) C w hk1 hln (by decide) (by decide) rfl (fun _ h => FieldType.noConfusion h) ac_int (by decide) rfl (by decide) (by show _ ≤ 18; omega) (by show _ ≤ 448; omega) dX5_init_7 (fun H w => ?_)
  refine gn_putR C w ff_X5_9 hname (by omega) kth (by decide) (fun _ _ _ => rfl) (fun _ => rfl) (fun _ => rfl) dX5_init_9 (fun H locs w => ?_)
  refine lv_aload_n C.1 C.2.1 dX5_init_12 rfl (lv_at hl 0 rfl) ?_
  refine lv_iconst (v := 4) C.1 C.2.1 dX5_init_13 (by decide) ?_
  obtain ⟨⟨hk4, hln, hbc, hbs⟩, h⟩ := g_ob h
  refine gn_newq (N := 4) C w hk4 hln (by decide) (by decide) rfl clk_X5_15 (by decide +kernel) (by decide) rfl (by decide) (by show _ ≤ 18; omega) (by show _ ≤ 448; omega) dX5_init_14 (fun H w => ?_)
  refine gn_putR C w ff_X5_17 hname (by omega) kth (by decide) (fun _ _ _ => rfl) (fun _ => rfl) (fun _ => rfl) dX5_init_17 (fun H locs w => ?_)
  refine lv_aload_n C.1 C.2.1 dX5_init_20 rfl (lv_at hl 0 rfl) ?_
  refine lv_iconst (v := (-1)) C.1 C.2.1 dX5_init_21 (by decide) ?_
  refine gn_putI C w fw_X5_21 (by omega) kth (by decide) (fun _ _ _ => rfl) rfl rfl dX5_init_22 (fun H locs w => ?_)
  refine lv_aload_n C.1 C.2.1 dX5_init_25 rfl (lv_at hl 0 rfl) ?_
  refine lv_aload_n C.1 C.2.1 dX5_init_26 rfl (lv_at hl 1 rfl) ?_
  refine gn_putR C w ff_X5_25 hname (by omega) kth (by decide) (fun _ _ _ => rfl) (fun _ => rfl) (fun _ => rfl) dX5_init_27 (fun H locs w => ?_)
  refine lv_iconst (v := 0) C.1 C.2.1 dX5_init_30 (by decide) ?_
  refine lv_istore_n (lv' := [(2, .int 0), (0, .ref (B.1 th)), (1, .ref (B.1 a1))]) C.1 C.2.1 dX5_init_31 rfl hl (by decide) rfl (fun ls hl => ?_)
  refine W.cs (cells' := (n0 + 1 + 1) - n0) (slots' := 0 + 8 + 4) (by omega) (by omega) ?_
  exact B_32 _ _ _ _ _ _ _ _ h (by omega) w (show lv_has ls 3 [(0, .ref (B.1 th)), (1, .ref (B.1 a1)), (2, .int 0)] from lv_sub hl [1, 2, 0] rfl)

set_option maxHeartbeats 8000000 in
set_option maxRecDepth 100000 in
theorem m_X0_init {l : Launch} {D : va_G} {cA : Nat → ClassId} {B : BA} {n0 : Nat} {th : Nat} {a1 : Nat} {σ : GS} {o : GS} (hth : th < n0) (kth : kdG th = 0) (ha1 : a1 < n0) (ka1 : kdG a1 = 1) (h0 : F_X0_init σ n0 th a1 = some o) : MN l yX0_init cX0_init 3 3 65 191 4560 D cA B [.ref (B.1 th), .ref (B.1 a1)] n0 σ (n0 + 191) o := by
  refine MN.of (by decide +kernel) (Nat.le_of_ble_eq_true rfl) ?_
  intro p e s m args below meth c C hr hname w ls hl
  have hco := w.2.1
  have hl : lv_has ls 3 [(0, .ref (B.1 th)), (1, .ref (B.1 a1))] := hl
  have B_15 : ∀ (k : Nat) (σ : GS) (n m9 : Nat) (v2 : Int32) (H : Heap) (locs : List Loc) (ls : Array Slot), L_X0_init_15 n0 th a1 k σ n m9 v2 = some o → n0 ≤ n → WN D cA B n σ s H locs → lv_has ls 3 [(0, .ref (B.1 th)), (1, .ref (B.1 a1)), (2, .int v2)] → W p l e (rmN 3 65 191 4560) s m args below meth c H locs (n - n0) m9 (MQ below (QN D cA B (n0 + 191) o) args s 191 4560 (BB B)) (F0 m 15 ls []) := by
    intro k
    induction k with
    | zero => intro σ n m9 v2 H locs ls h; exact nomatch (show (none : Option GS) = some o from h)
    | succ k ih =>
      intro σ n m9 v2 H locs ls h hn w hl
      unfold L_X0_init_15 at h
      refine lv_iload_n C.1 C.2.1 dX0_init_15 rfl (lv_at hl 2 rfl) ?_
      refine lv_aload_n C.1 C.2.1 dX0_init_16 rfl (lv_at hl 0 rfl) ?_
      obtain ⟨⟨hg, hl4⟩, h⟩ := g_ob h
      refine gn_getR C w fl_X0_11 (by omega) kth (by decide) hg (fun _ _ _ => rfl) dX0_init_17 ?_
      refine gn_alen C w (by omega) (kt_0_0 _ kth).2 (by decide) (by decide) dX0_init_20 ?_
      refine lv_icmp_ge (tgt := 44) C.1 C.2.1 dX0_init_21 (by decide) (fun hc => ?_) (fun hc => ?_)
      · have h := (if_pos hc).symm.trans h
        obtain ⟨⟨hen, hes⟩, h⟩ := g_ob h
        refine W.widen (k := 191) (n := 4560) (by omega) (by omega) ?_
        exact gn_retE C w hen hr dX0_init_44 h
      · have h := (if_neg hc).symm.trans h
        refine lv_aload_n C.1 C.2.1 dX0_init_24 rfl (lv_at hl 0 rfl) ?_
        obtain ⟨⟨hg, hl5⟩, h⟩ := g_ob h
        refine gn_getR C w fl_X0_11 (by omega) kth (by decide) hg (fun _ _ _ => rfl) dX0_init_25 ?_
        refine lv_iload_n C.1 C.2.1 dX0_init_28 rfl (lv_at hl 2 rfl) ?_
        obtain ⟨⟨hk6, hbc, hbs⟩, h⟩ := g_ob h
        refine gn_new C w hk6 (by decide) cl_5 clk_X0_9 ins_X5 in_X5 (show nF 5 = 7 from rfl) (by show _ ≤ 191; omega) (by show _ + 7 ≤ 4560; omega) dX0_init_29 (fun H w => ?_)
        refine lv_dup C.1 C.2.1 dX0_init_32 rfl ?_
        refine lv_aload_n C.1 C.2.1 dX0_init_33 rfl (lv_at hl 1 rfl) ?_
        obtain ⟨⟨hbc, hbs⟩, h⟩ := g_ob h
        obtain ⟨o8, ho8, h⟩ := g_bd h
        refine gn_init (np := 1) (As := [.ref (B.1 a1)]) (rest := [.ref (B.1 n), .int v2, .ref (B.1 (rfG th 0))]) C w (m_X5_init (by omega) hk6 (by omega) ka1 ho8) ml_X0_17 iy_X5_init in_X5 cy_X5_init rfl ⟨by decide +kernel, by decide +kernel, by decide +kernel⟩ rfl ⟨Nat.le_of_ble_eq_true rfl, Nat.le_of_ble_eq_true rfl⟩ rfl (Nat.le_of_ble_eq_true rfl) hl.1 ⟨by show _ ≤ 191; omega, by show _ ≤ 4560; omega⟩ dX0_init_34 (fun H locs w => ?_)
        obtain ⟨hb, h⟩ := g_ob h
        refine gn_aast C w (by omega) (kt_0_0 _ kth).2 (by decide) (by decide) rfl (by omega) hk6 (by decide) (cl_5).1 hb dX0_init_37 (fun H locs w => ?_)
        refine lv_iinc (k := 2) (v := v2 + 1) (lv' := [(2, .int (v2 + 1)), (0, .ref (B.1 th)), (1, .ref (B.1 a1))]) C.1 C.2.1 dX0_init_38 hl rfl rfl (by decide) rfl (fun ls hl => ?_)
        refine lv_goto (tgt := 15) C.1 C.2.1 dX0_init_41 (by decide) ?_
        refine W.cs (cells' := (n + 1 + 18) - n0) (slots' := m9 + 7 + 448) (by omega) (by omega) ?_
        exact ih _ _ _ _ _ _ _ h (by omega) w (show lv_has ls 3 [(0, .ref (B.1 th)), (1, .ref (B.1 a1)), (2, .int (v2 + 1))] from lv_sub hl [1, 2, 0] rfl)
  have h := h0
  unfold F_X0_init at h
  refine lv_aload_n C.1 C.2.1 dX0_init_0 rfl (lv_at hl 0 rfl) ?_
  refine gn_obj C hl.1 mo_X0 im_obj cy_obj (Nat.le_of_ble_eq_true rfl) (Nat.le_of_ble_eq_true rfl) dX0_init_1 ?_
  refine lv_aload_n C.1 C.2.1 dX0_init_4 rfl (lv_at hl 0 rfl) ?_
  refine lv_bipush (v := 10) C.1 C.2.1 dX0_init_5 (by decide) ?_
  obtain ⟨⟨hk1, hln, hbc, hbs⟩, h⟩ := g_ob h
  refine gn_newq (N := 10) C w hk1 hln (by decide) (by decide) rfl clk_X0_9 (by decide +kernel) (by decide) rfl (by decide) (by show _ ≤ 191; omega) (by show _ ≤ 4560; omega) dX0_init_7 (fun H w => ?_)
  refine gn_putR C w ff_X0_11 hname (by omega) kth (by decide) (fun _ _ _ => rfl) (fun _ => rfl) (fun _ => rfl) dX0_init_10 (fun H locs w => ?_)
  refine lv_iconst (v := 0) C.1 C.2.1 dX0_init_13 (by decide) ?_
  refine lv_istore_n (lv' := [(2, .int 0), (0, .ref (B.1 th)), (1, .ref (B.1 a1))]) C.1 C.2.1 dX0_init_14 rfl hl (by decide) rfl (fun ls hl => ?_)
  refine W.cs (cells' := (n0 + 1) - n0) (slots' := 0 + 10) (by omega) (by omega) ?_
  exact B_15 _ _ _ _ _ _ _ _ h (by omega) w (show lv_has ls 3 [(0, .ref (B.1 th)), (1, .ref (B.1 a1)), (2, .int 0)] from lv_sub hl [1, 2, 0] rfl)

set_option maxHeartbeats 8000000 in
set_option maxRecDepth 100000 in
theorem m_X2_init {l : Launch} {D : va_G} {cA : Nat → ClassId} {B : BA} {n0 : Nat} {th : Nat} {a1 : Nat} {σ : GS} {o : GS} (hth : th < n0) (kth : kdG th = 2) (ha1 : a1 < n0) (ka1 : kdG a1 = 5) (h0 : F_X2_init σ n0 th a1 = some o) : MN l yX2_init cX2_init 2 3 65 39 940 D cA B [.ref (B.1 th), .ref (B.1 a1)] n0 σ (n0 + 39) o := by
  refine MN.of (by decide +kernel) (Nat.le_of_ble_eq_true rfl) ?_
  intro p e s m args below meth c C hr hname w ls hl
  have hco := w.2.1
  have hl : lv_has ls 2 [(0, .ref (B.1 th)), (1, .ref (B.1 a1))] := hl
  have h := h0
  unfold F_X2_init at h
  refine lv_aload_n C.1 C.2.1 dX2_init_0 rfl (lv_at hl 0 rfl) ?_
  refine gn_obj C hl.1 mo_X2 im_obj cy_obj (Nat.le_of_ble_eq_true rfl) (Nat.le_of_ble_eq_true rfl) dX2_init_1 ?_
  refine lv_aload_n C.1 C.2.1 dX2_init_4 rfl (lv_at hl 0 rfl) ?_
  refine lv_bipush (v := 30) C.1 C.2.1 dX2_init_5 (by decide) ?_
  obtain ⟨⟨hk1, hln, hbc, hbs⟩, h⟩ := g_ob h
  refine gn_newa (N := 30) C w hk1 hln (by decide) (by decide) rfl (fun _ h => FieldType.noConfusion h) ac_int (by decide) rfl (by decide) (by show _ ≤ 39; omega) (by show _ ≤ 940; omega) dX2_init_7 (fun H w => ?_)
  refine gn_putR C w ff_X2_9 hname (by omega) kth (by decide) (fun _ _ _ => rfl) (fun _ => rfl) (fun _ => rfl) dX2_init_9 (fun H locs w => ?_)
  refine lv_aload_n C.1 C.2.1 dX2_init_12 rfl (lv_at hl 0 rfl) ?_
  refine lv_aload_n C.1 C.2.1 dX2_init_13 rfl (lv_at hl 1 rfl) ?_
  refine gn_putR C w ff_X2_15 hname (by omega) kth (by decide) (fun _ _ _ => rfl) (fun _ => rfl) (fun _ => rfl) dX2_init_14 (fun H locs w => ?_)
  refine lv_aload_n C.1 C.2.1 dX2_init_17 rfl (lv_at hl 0 rfl) ?_
  obtain ⟨⟨hk5, hbc, hbs⟩, h⟩ := g_ob h
  refine gn_new C w hk5 (by decide) cl_5 clk_X2_19 ins_X5 in_X5 (show nF 5 = 7 from rfl) (by show _ ≤ 39; omega) (by show _ + 7 ≤ 940; omega) dX2_init_18 (fun H w => ?_)
  refine lv_dup C.1 C.2.1 dX2_init_21 rfl ?_
  refine lv_aload_n C.1 C.2.1 dX2_init_22 rfl (lv_at hl 1 rfl) ?_
  obtain ⟨⟨hg, hl7⟩, h⟩ := g_ob h
  refine gn_getR C w fl_X2_21 (by omega) ka1 (by decide) hg (fun _ _ _ => rfl) dX2_init_23 ?_
  obtain ⟨⟨hbc, hbs⟩, h⟩ := g_ob h
  obtain ⟨o8, ho8, h⟩ := g_bd h
  refine gn_init (np := 1) (As := [.ref (B.1 (rfG a1 0))]) (rest := [.ref (B.1 (n0 + 1)), .ref (B.1 th)]) C w (m_X5_init (by omega) hk5 (by omega) (kt_5_0 _ ka1).2 ho8) ml_X2_25 iy_X5_init in_X5 cy_X5_init rfl ⟨by decide +kernel, by decide +kernel, by decide +kernel⟩ rfl ⟨Nat.le_of_ble_eq_true rfl, Nat.le_of_ble_eq_true rfl⟩ rfl (Nat.le_of_ble_eq_true rfl) hl.1 ⟨by show _ ≤ 39; omega, by show _ ≤ 940; omega⟩ dX2_init_26 (fun H locs w => ?_)
  refine gn_putR C w ff_X2_28 hname (by omega) kth (by decide) (fun _ _ _ => rfl) (fun _ => rfl) (fun _ => rfl) dX2_init_29 (fun H locs w => ?_)
  refine lv_aload_n C.1 C.2.1 dX2_init_32 rfl (lv_at hl 0 rfl) ?_
  obtain ⟨⟨hk10, hbc, hbs⟩, h⟩ := g_ob h
  refine gn_new C w hk10 (by decide) cl_5 clk_X2_19 ins_X5 in_X5 (show nF 5 = 7 from rfl) (by show _ ≤ 39; omega) (by show _ + 7 ≤ 940; omega) dX2_init_33 (fun H w => ?_)
  refine lv_dup C.1 C.2.1 dX2_init_36 rfl ?_
  refine lv_aload_n C.1 C.2.1 dX2_init_37 rfl (lv_at hl 1 rfl) ?_
  obtain ⟨⟨hg, hl12⟩, h⟩ := g_ob h
  refine gn_getR C w fl_X2_21 (by omega) ka1 (by decide) hg (fun _ _ _ => rfl) dX2_init_38 ?_
  obtain ⟨⟨hbc, hbs⟩, h⟩ := g_ob h
  obtain ⟨o13, ho13, h⟩ := g_bd h
  refine gn_init (np := 1) (As := [.ref (B.1 (rfG a1 0))]) (rest := [.ref (B.1 (n0 + 1 + 1 + 18)), .ref (B.1 th)]) C w (m_X5_init (by omega) hk10 (by omega) (kt_5_0 _ ka1).2 ho13) ml_X2_25 iy_X5_init in_X5 cy_X5_init rfl ⟨by decide +kernel, by decide +kernel, by decide +kernel⟩ rfl ⟨Nat.le_of_ble_eq_true rfl, Nat.le_of_ble_eq_true rfl⟩ rfl (Nat.le_of_ble_eq_true rfl) hl.1 ⟨by show _ ≤ 39; omega, by show _ ≤ 940; omega⟩ dX2_init_41 (fun H locs w => ?_)
  refine gn_putR C w ff_X2_31 hname (by omega) kth (by decide) (fun _ _ _ => rfl) (fun _ => rfl) (fun _ => rfl) dX2_init_44 (fun H locs w => ?_)
  obtain ⟨⟨hen, hes⟩, h⟩ := g_ob h
  refine W.widen (k := 39) (n := 940) (by omega) (by omega) ?_
  exact gn_retE C w hen hr dX2_init_47 h

set_option maxHeartbeats 8000000 in
set_option maxRecDepth 100000 in
theorem m_X4_init {l : Launch} {D : va_G} {cA : Nat → ClassId} {B : BA} {n0 : Nat} {th : Nat} {σ : GS} {o : GS} (hth : th < n0) (kth : kdG th = 4) (h0 : F_X4_init σ n0 th = some o) : MN l yX4_init cX4_init 1 4 86 18 1168 D cA B [.ref (B.1 th)] n0 σ (n0 + 18) o := by
  refine MN.of (by decide +kernel) (Nat.le_of_ble_eq_true rfl) ?_
  intro p e s m args below meth c C hr hname w ls hl
  have hco := w.2.1
  have hl : lv_has ls 1 [(0, .ref (B.1 th))] := hl
  have h := h0
  unfold F_X4_init at h
  refine lv_aload_n C.1 C.2.1 dX4_init_0 rfl (lv_at hl 0 rfl) ?_
  refine gn_obj C hl.1 mo_X4 im_obj cy_obj (Nat.le_of_ble_eq_true rfl) (Nat.le_of_ble_eq_true rfl) dX4_init_1 ?_
  refine lv_aload_n C.1 C.2.1 dX4_init_4 rfl (lv_at hl 0 rfl) ?_
  obtain ⟨⟨hk1, hbc, hbs⟩, h⟩ := g_ob h
  refine gn_new C w hk1 (by decide) cl_1 clk_X4_9 ins_X1 in_X1 (show nF 1 = 12 from rfl) (by show _ ≤ 18; omega) (by show _ + 12 ≤ 1168; omega) dX4_init_5 (fun H w => ?_)
  refine lv_dup C.1 C.2.1 dX4_init_8 rfl ?_
  obtain ⟨⟨hbc, hbs⟩, h⟩ := g_ob h
  obtain ⟨o3, ho3, h⟩ := g_bd h
  refine gn_init (np := 0) (As := []) (rest := [.ref (B.1 n0), .ref (B.1 th)]) C w (m_X1_init (by omega) hk1 ho3) ml_X4_11 iy_X1_init in_X1 cy_X1_init rfl ⟨by decide +kernel, by decide +kernel, by decide +kernel⟩ rfl ⟨Nat.le_of_ble_eq_true rfl, Nat.le_of_ble_eq_true rfl⟩ rfl (Nat.le_of_ble_eq_true rfl) hl.1 ⟨by show _ ≤ 18; omega, by show _ ≤ 1168; omega⟩ dX4_init_9 (fun H locs w => ?_)
  refine gn_putR C w ff_X4_12 hname (by omega) kth (by decide) (fun _ _ _ => rfl) (fun _ => rfl) (fun _ => rfl) dX4_init_12 (fun H locs w => ?_)
  refine lv_aload_n C.1 C.2.1 dX4_init_15 rfl (lv_at hl 0 rfl) ?_
  refine lv_sipush (v := 600) C.1 C.2.1 dX4_init_16 (by decide) ?_
  obtain ⟨⟨hk5, hln, hbc, hbs⟩, h⟩ := g_ob h
  refine gn_newa (N := 600) C w hk5 hln (by decide) (by decide) rfl (fun _ h => FieldType.noConfusion h) ac_byte (by decide) rfl (by decide) (by show _ ≤ 18; omega) (by show _ ≤ 1168; omega) dX4_init_19 (fun H w => ?_)
  refine gn_putR C w ff_X4_18 hname (by omega) kth (by decide) (fun _ _ _ => rfl) (fun _ => rfl) (fun _ => rfl) dX4_init_21 (fun H locs w => ?_)
  refine lv_aload_n C.1 C.2.1 dX4_init_24 rfl (lv_at hl 0 rfl) ?_
  refine lv_iconst (v := (-1)) C.1 C.2.1 dX4_init_25 (by decide) ?_
  refine gn_putI C w fw_X4_22 (by omega) kth (by decide) (fun _ _ _ => rfl) rfl rfl dX4_init_26 (fun H locs w => ?_)
  obtain ⟨⟨hen, hes⟩, h⟩ := g_ob h
  refine W.widen (k := 18) (n := 1168) (by omega) (by omega) ?_
  exact gn_retE C w hen hr dX4_init_29 h

set_option maxHeartbeats 8000000 in
set_option maxRecDepth 100000 in
theorem m_X7_init {l : Launch} {D : va_G} {cA : Nat → ClassId} {B : BA} {n0 : Nat} {th : Nat} {σ : GS} {o : GS} (hth : th < n0) (kth : kdG th = 7) (h0 : F_X7_init σ n0 th = some o) : MN l yX7_init cX7_init 2 5 106 327 8623 D cA B [.ref (B.1 th)] n0 σ (n0 + 327) o := by
  refine MN.of (by decide +kernel) (Nat.le_of_ble_eq_true rfl) ?_
  intro p e s m args below meth c C hr hname w ls hl
  have hco := w.2.1
  have hl : lv_has ls 2 [(0, .ref (B.1 th))] := hl
  have B_81 : ∀ (k : Nat) (σ : GS) (n m9 : Nat) (v1 : Int32) (H : Heap) (locs : List Loc) (ls : Array Slot), L_X7_init_81 n0 th k σ n m9 v1 = some o → n0 ≤ n → WN D cA B n σ s H locs → lv_has ls 2 [(0, .ref (B.1 th)), (1, .int v1)] → W p l e (rmN 5 106 327 8623) s m args below meth c H locs (n - n0) m9 (MQ below (QN D cA B (n0 + 327) o) args s 327 8623 (BB B)) (F0 m 81 ls []) := by
    intro k
    induction k with
    | zero => intro σ n m9 v1 H locs ls h; exact nomatch (show (none : Option GS) = some o from h)
    | succ k ih =>
      intro σ n m9 v1 H locs ls h hn w hl
      unfold L_X7_init_81 at h
      refine lv_iload_n C.1 C.2.1 dX7_init_81 rfl (lv_at hl 1 rfl) ?_
      refine lv_aload_n C.1 C.2.1 dX7_init_82 rfl (lv_at hl 0 rfl) ?_
      obtain ⟨⟨hg, hl27⟩, h⟩ := g_ob h
      refine gn_getR C w fl_X7_48 (by omega) kth (by decide) hg (fun _ _ _ => rfl) dX7_init_83 ?_
      refine gn_alen C w (by omega) (kt_7_5 _ kth).2 (by decide) (by decide) dX7_init_86 ?_
      refine lv_icmp_ge (tgt := 113) C.1 C.2.1 dX7_init_87 (by decide) (fun hc => ?_) (fun hc => ?_)
      · have h := (if_pos hc).symm.trans h
        refine lv_aload_n C.1 C.2.1 dX7_init_113 rfl (lv_at hl 0 rfl) ?_
        refine lv_iconst (v := 2) C.1 C.2.1 dX7_init_114 (by decide) ?_
        obtain ⟨⟨hk28, hln, hbc, hbs⟩, h⟩ := g_ob h
        refine gn_newa (N := 2) C w hk28 hln (by decide) (by decide) rfl (fun _ h => FieldType.noConfusion h) ac_boolean (by decide) rfl (by decide) (by show _ ≤ 327; omega) (by show _ ≤ 8623; omega) dX7_init_115 (fun H w => ?_)
        refine gn_putR C w ff_X7_52 hname (by omega) kth (by decide) (fun _ _ _ => rfl) (fun _ => rfl) (fun _ => rfl) dX7_init_117 (fun H locs w => ?_)
        refine lv_aload_n C.1 C.2.1 dX7_init_120 rfl (lv_at hl 0 rfl) ?_
        obtain ⟨⟨hg, hl31⟩, h⟩ := g_ob h
        refine gn_getR C w fl_X7_28 (by omega) kth (by decide) hg (fun _ _ _ => rfl) dX7_init_121 ?_
        obtain ⟨⟨hrr, hlt, hmem, hbc, hbs⟩, h⟩ := g_ob h
        obtain ⟨o32, ho32, h⟩ := g_bd h
        refine gn_call (lst := List.range (n + 1)) (np := 0) (As := []) (rest := []) C w (m_X5_begin hmem (kt_7_2 _ kth).2 ho32) (RRc.rr hrr) hlt (g_sz hco w.2.1 (by omega) (by omega)) (cl_5).1 hmem (kt_7_2 _ kth).2 (by decide) ml_X7_56 iy_X5_begin sy_X5_begin in_X5 cy_X5_begin ⟨rfl, by decide +kernel, by decide +kernel, by decide +kernel⟩ rfl ⟨Nat.le_of_ble_eq_true rfl, Nat.le_of_ble_eq_true rfl⟩ rfl (Nat.le_of_ble_eq_true rfl) hl.1 ⟨by show _ ≤ 327; omega, by show _ ≤ 8623; omega⟩ dX7_init_124 (fun H locs w => ?_)
        obtain ⟨⟨hen, hes⟩, h⟩ := g_ob h
        refine W.widen (k := 327) (n := 8623) (by omega) (by omega) ?_
        exact gn_retE C w hen hr dX7_init_127 h
      · have h := (if_neg hc).symm.trans h
        refine lv_aload_n C.1 C.2.1 dX7_init_90 rfl (lv_at hl 0 rfl) ?_
        obtain ⟨⟨hg, hl34⟩, h⟩ := g_ob h
        refine gn_getR C w fl_X7_48 (by omega) kth (by decide) hg (fun _ _ _ => rfl) dX7_init_91 ?_
        refine lv_iload_n C.1 C.2.1 dX7_init_94 rfl (lv_at hl 1 rfl) ?_
        obtain ⟨⟨hk35, hbc, hbs⟩, h⟩ := g_ob h
        refine gn_new C w hk35 (by decide) cl_5 clk_X7_23 ins_X5 in_X5 (show nF 5 = 7 from rfl) (by show _ ≤ 327; omega) (by show _ + 7 ≤ 8623; omega) dX7_init_95 (fun H w => ?_)
        refine lv_dup C.1 C.2.1 dX7_init_98 rfl ?_
        refine lv_aload_n C.1 C.2.1 dX7_init_99 rfl (lv_at hl 0 rfl) ?_
        obtain ⟨⟨hg, hl37⟩, h⟩ := g_ob h
        refine gn_getR C w fl_X7_19 (by omega) kth (by decide) hg (fun _ _ _ => rfl) dX7_init_100 ?_
        obtain ⟨⟨hbc, hbs⟩, h⟩ := g_ob h
        obtain ⟨o38, ho38, h⟩ := g_bd h
        refine gn_init (np := 1) (As := [.ref (B.1 (rfG th 1))]) (rest := [.ref (B.1 n), .int v1, .ref (B.1 (rfG th 5))]) C w (m_X5_init (by omega) hk35 (by omega) (kt_7_1 _ kth).2 ho38) ml_X7_25 iy_X5_init in_X5 cy_X5_init rfl ⟨by decide +kernel, by decide +kernel, by decide +kernel⟩ rfl ⟨Nat.le_of_ble_eq_true rfl, Nat.le_of_ble_eq_true rfl⟩ rfl (Nat.le_of_ble_eq_true rfl) hl.1 ⟨by show _ ≤ 327; omega, by show _ ≤ 8623; omega⟩ dX7_init_103 (fun H locs w => ?_)
        obtain ⟨hb, h⟩ := g_ob h
        refine gn_aast C w (by omega) (kt_7_5 _ kth).2 (by decide) (by decide) rfl (by omega) hk35 (by decide) (cl_5).1 hb dX7_init_106 (fun H locs w => ?_)
        refine lv_iinc (k := 1) (v := v1 + 1) (lv' := [(1, .int (v1 + 1)), (0, .ref (B.1 th))]) C.1 C.2.1 dX7_init_107 hl rfl rfl (by decide) rfl (fun ls hl => ?_)
        refine lv_goto (tgt := 81) C.1 C.2.1 dX7_init_110 (by decide) ?_
        refine W.cs (cells' := (n + 1 + 18) - n0) (slots' := m9 + 7 + 448) (by omega) (by omega) ?_
        exact ih _ _ _ _ _ _ _ h (by omega) w (show lv_has ls 2 [(0, .ref (B.1 th)), (1, .int (v1 + 1))] from lv_sub hl [1, 0] rfl)
  have h := h0
  unfold F_X7_init at h
  refine lv_aload_n C.1 C.2.1 dX7_init_0 rfl (lv_at hl 0 rfl) ?_
  refine gn_obj C hl.1 mo_X7 im_obj cy_obj (Nat.le_of_ble_eq_true rfl) (Nat.le_of_ble_eq_true rfl) dX7_init_1 ?_
  refine lv_aload_n C.1 C.2.1 dX7_init_4 rfl (lv_at hl 0 rfl) ?_
  obtain ⟨⟨hk1, hbc, hbs⟩, h⟩ := g_ob h
  refine gn_new C w hk1 (by decide) cl_4 clk_X7_7 ins_X4 in_X4 (show nF 4 = 11 from rfl) (by show _ ≤ 327; omega) (by show _ + 11 ≤ 8623; omega) dX7_init_5 (fun H w => ?_)
  refine lv_dup C.1 C.2.1 dX7_init_8 rfl ?_
  obtain ⟨⟨hbc, hbs⟩, h⟩ := g_ob h
  obtain ⟨o3, ho3, h⟩ := g_bd h
  refine gn_initN (np := 0) (As := []) (rest := [.ref (B.1 n0), .ref (B.1 th)]) C w (m_X4_init (by omega) hk1 ho3) nl_X7_9 iy_X4_init in_X4 cy_X4_init rfl ⟨by decide +kernel, by decide +kernel, by decide +kernel⟩ rfl ⟨Nat.le_of_ble_eq_true rfl, Nat.le_of_ble_eq_true rfl⟩ rfl (Nat.le_of_ble_eq_true rfl) hl.1 ⟨by show _ ≤ 327; omega, by show _ ≤ 8623; omega⟩ dX7_init_9 (fun H locs w => ?_)
  refine gn_putR C w ff_X7_10 hname (by omega) kth (by decide) (fun _ _ _ => rfl) (fun _ => rfl) (fun _ => rfl) dX7_init_12 (fun H locs w => ?_)
  refine lv_aload_n C.1 C.2.1 dX7_init_15 rfl (lv_at hl 0 rfl) ?_
  obtain ⟨⟨hk5, hbc, hbs⟩, h⟩ := g_ob h
  refine gn_new C w hk5 (by decide) cl_1 clk_X7_16 ins_X1 in_X1 (show nF 1 = 12 from rfl) (by show _ ≤ 327; omega) (by show _ + 12 ≤ 8623; omega) dX7_init_16 (fun H w => ?_)
  refine lv_dup C.1 C.2.1 dX7_init_19 rfl ?_
  obtain ⟨⟨hbc, hbs⟩, h⟩ := g_ob h
  obtain ⟨o7, ho7, h⟩ := g_bd h
  refine gn_init (np := 0) (As := []) (rest := [.ref (B.1 (n0 + 1 + 18)), .ref (B.1 th)]) C w (m_X1_init (by omega) hk5 ho7) ml_X7_18 iy_X1_init in_X1 cy_X1_init rfl ⟨by decide +kernel, by decide +kernel, by decide +kernel⟩ rfl ⟨Nat.le_of_ble_eq_true rfl, Nat.le_of_ble_eq_true rfl⟩ rfl (Nat.le_of_ble_eq_true rfl) hl.1 ⟨by show _ ≤ 327; omega, by show _ ≤ 8623; omega⟩ dX7_init_20 (fun H locs w => ?_)
  refine gn_putR C w ff_X7_19 hname (by omega) kth (by decide) (fun _ _ _ => rfl) (fun _ => rfl) (fun _ => rfl) dX7_init_23 (fun H locs w => ?_)
  refine lv_aload_n C.1 C.2.1 dX7_init_26 rfl (lv_at hl 0 rfl) ?_
  obtain ⟨⟨hk9, hbc, hbs⟩, h⟩ := g_ob h
  refine gn_new C w hk9 (by decide) cl_5 clk_X7_23 ins_X5 in_X5 (show nF 5 = 7 from rfl) (by show _ ≤ 327; omega) (by show _ + 7 ≤ 8623; omega) dX7_init_27 (fun H w => ?_)
  refine lv_dup C.1 C.2.1 dX7_init_30 rfl ?_
  refine lv_aload_n C.1 C.2.1 dX7_init_31 rfl (lv_at hl 0 rfl) ?_
  obtain ⟨⟨hg, hl11⟩, h⟩ := g_ob h
  refine gn_getR C w fl_X7_19 (by omega) kth (by decide) hg (fun _ _ _ => rfl) dX7_init_32 ?_
  obtain ⟨⟨hbc, hbs⟩, h⟩ := g_ob h
  obtain ⟨o12, ho12, h⟩ := g_bd h
  refine gn_init (np := 1) (As := [.ref (B.1 (rfG th 1))]) (rest := [.ref (B.1 (n0 + 1 + 18 + 1 + 16)), .ref (B.1 th)]) C w (m_X5_init (by omega) hk9 (by omega) (kt_7_1 _ kth).2 ho12) ml_X7_25 iy_X5_init in_X5 cy_X5_init rfl ⟨by decide +kernel, by decide +kernel, by decide +kernel⟩ rfl ⟨Nat.le_of_ble_eq_true rfl, Nat.le_of_ble_eq_true rfl⟩ rfl (Nat.le_of_ble_eq_true rfl) hl.1 ⟨by show _ ≤ 327; omega, by show _ ≤ 8623; omega⟩ dX7_init_35 (fun H locs w => ?_)
  refine gn_putR C w ff_X7_28 hname (by omega) kth (by decide) (fun _ _ _ => rfl) (fun _ => rfl) (fun _ => rfl) dX7_init_38 (fun H locs w => ?_)
  refine lv_aload_n C.1 C.2.1 dX7_init_41 rfl (lv_at hl 0 rfl) ?_
  obtain ⟨⟨hk14, hbc, hbs⟩, h⟩ := g_ob h
  refine gn_new C w hk14 (by decide) cl_2 clk_X7_32 ins_X2 in_X2 (show nF 2 = 4 from rfl) (by show _ ≤ 327; omega) (by show _ + 4 ≤ 8623; omega) dX7_init_42 (fun H w => ?_)
  refine lv_dup C.1 C.2.1 dX7_init_45 rfl ?_
  refine lv_aload_n C.1 C.2.1 dX7_init_46 rfl (lv_at hl 0 rfl) ?_
  obtain ⟨⟨hg, hl16⟩, h⟩ := g_ob h
  refine gn_getR C w fl_X7_28 (by omega) kth (by decide) hg (fun _ _ _ => rfl) dX7_init_47 ?_
  obtain ⟨⟨hbc, hbs⟩, h⟩ := g_ob h
  obtain ⟨o17, ho17, h⟩ := g_bd h
  refine gn_init (np := 1) (As := [.ref (B.1 (rfG th 2))]) (rest := [.ref (B.1 (n0 + 1 + 18 + 1 + 16 + 1 + 18)), .ref (B.1 th)]) C w (m_X2_init (by omega) hk14 (by omega) (kt_7_2 _ kth).2 ho17) ml_X7_34 iy_X2_init in_X2 cy_X2_init rfl ⟨by decide +kernel, by decide +kernel, by decide +kernel⟩ rfl ⟨Nat.le_of_ble_eq_true rfl, Nat.le_of_ble_eq_true rfl⟩ rfl (Nat.le_of_ble_eq_true rfl) hl.1 ⟨by show _ ≤ 327; omega, by show _ ≤ 8623; omega⟩ dX7_init_50 (fun H locs w => ?_)
  refine gn_putR C w ff_X7_37 hname (by omega) kth (by decide) (fun _ _ _ => rfl) (fun _ => rfl) (fun _ => rfl) dX7_init_53 (fun H locs w => ?_)
  refine lv_aload_n C.1 C.2.1 dX7_init_56 rfl (lv_at hl 0 rfl) ?_
  obtain ⟨⟨hk19, hbc, hbs⟩, h⟩ := g_ob h
  refine gn_new C w hk19 (by decide) cl_0 clk_X7_41 ins_X0 in_X0 (show nF 0 = 3 from rfl) (by show _ ≤ 327; omega) (by show _ + 3 ≤ 8623; omega) dX7_init_57 (fun H w => ?_)
  refine lv_dup C.1 C.2.1 dX7_init_60 rfl ?_
  refine lv_aload_n C.1 C.2.1 dX7_init_61 rfl (lv_at hl 0 rfl) ?_
  obtain ⟨⟨hg, hl21⟩, h⟩ := g_ob h
  refine gn_getR C w fl_X7_19 (by omega) kth (by decide) hg (fun _ _ _ => rfl) dX7_init_62 ?_
  obtain ⟨⟨hbc, hbs⟩, h⟩ := g_ob h
  obtain ⟨o22, ho22, h⟩ := g_bd h
  refine gn_init (np := 1) (As := [.ref (B.1 (rfG th 1))]) (rest := [.ref (B.1 (n0 + 1 + 18 + 1 + 16 + 1 + 18 + 1 + 39)), .ref (B.1 th)]) C w (m_X0_init (by omega) hk19 (by omega) (kt_7_1 _ kth).2 ho22) ml_X7_43 iy_X0_init in_X0 cy_X0_init rfl ⟨by decide +kernel, by decide +kernel, by decide +kernel⟩ rfl ⟨Nat.le_of_ble_eq_true rfl, Nat.le_of_ble_eq_true rfl⟩ rfl (Nat.le_of_ble_eq_true rfl) hl.1 ⟨by show _ ≤ 327; omega, by show _ ≤ 8623; omega⟩ dX7_init_65 (fun H locs w => ?_)
  refine gn_putR C w ff_X7_44 hname (by omega) kth (by decide) (fun _ _ _ => rfl) (fun _ => rfl) (fun _ => rfl) dX7_init_68 (fun H locs w => ?_)
  refine lv_aload_n C.1 C.2.1 dX7_init_71 rfl (lv_at hl 0 rfl) ?_
  refine lv_iconst (v := 2) C.1 C.2.1 dX7_init_72 (by decide) ?_
  obtain ⟨⟨hk24, hln, hbc, hbs⟩, h⟩ := g_ob h
  refine gn_newq (N := 2) C w hk24 hln (by decide) (by decide) rfl clk_X7_23 (by decide +kernel) (by decide) rfl (by decide) (by show _ ≤ 327; omega) (by show _ ≤ 8623; omega) dX7_init_73 (fun H w => ?_)
  refine gn_putR C w ff_X7_48 hname (by omega) kth (by decide) (fun _ _ _ => rfl) (fun _ => rfl) (fun _ => rfl) dX7_init_76 (fun H locs w => ?_)
  refine lv_iconst (v := 0) C.1 C.2.1 dX7_init_79 (by decide) ?_
  refine lv_istore_n (lv' := [(1, .int 0), (0, .ref (B.1 th))]) C.1 C.2.1 dX7_init_80 rfl hl (by decide) rfl (fun ls hl => ?_)
  refine W.cs (cells' := (n0 + 1 + 18 + 1 + 16 + 1 + 18 + 1 + 39 + 1 + 191 + 1) - n0) (slots' := 0 + 11 + 1168 + 12 + 556 + 7 + 448 + 4 + 940 + 3 + 4560 + 2) (by omega) (by omega) ?_
  exact B_81 _ _ _ _ _ _ _ _ h (by omega) w (show lv_has ls 2 [(0, .ref (B.1 th)), (1, .int 0)] from lv_sub hl [1, 0] rfl)

set_option maxHeartbeats 8000000 in
set_option maxRecDepth 100000 in
theorem m_X9_init {l : Launch} {D : va_G} {cA : Nat → ClassId} {B : BA} {n0 : Nat} {th : Nat} {σ : GS} {o : GS} (hth : th < n0) (kth : kdG th = 9) (h0 : F_X9_init σ n0 th = some o) : MN l yX9_init cX9_init 2 1 20 5 124 D cA B [.ref (B.1 th)] n0 σ (n0 + 5) o := by
  refine MN.of (by decide +kernel) (Nat.le_of_ble_eq_true rfl) ?_
  intro p e s m args below meth c C hr hname w ls hl
  have hco := w.2.1
  have hl : lv_has ls 2 [(0, .ref (B.1 th))] := hl
  have B_50 : ∀ (k : Nat) (σ : GS) (n m9 : Nat) (v1 : Int32) (H : Heap) (locs : List Loc) (ls : Array Slot), L_X9_init_50 n0 th k σ n m9 v1 = some o → n0 ≤ n → WN D cA B n σ s H locs → lv_has ls 2 [(0, .ref (B.1 th)), (1, .int v1)] → W p l e (rmN 1 20 5 124) s m args below meth c H locs (n - n0) m9 (MQ below (QN D cA B (n0 + 5) o) args s 5 124 (BB B)) (F0 m 50 ls []) := by
    intro k
    induction k with
    | zero => intro σ n m9 v1 H locs ls h; exact nomatch (show (none : Option GS) = some o from h)
    | succ k ih =>
      intro σ n m9 v1 H locs ls h hn w hl
      unfold L_X9_init_50 at h
      refine lv_iload_n C.1 C.2.1 dX9_init_50 rfl (lv_at hl 1 rfl) ?_
      refine lv_bipush (v := 30) C.1 C.2.1 dX9_init_51 (by decide) ?_
      refine lv_icmp_ge (tgt := 69) C.1 C.2.1 dX9_init_53 (by decide) (fun hc => ?_) (fun hc => ?_)
      · have h := (if_pos hc).symm.trans h
        obtain ⟨⟨hen, hes⟩, h⟩ := g_ob h
        refine W.widen (k := 5) (n := 124) (by omega) (by omega) ?_
        exact gn_retE C w hen hr dX9_init_69 h
      · have h := (if_neg hc).symm.trans h
        refine lv_aload_n C.1 C.2.1 dX9_init_56 rfl (lv_at hl 0 rfl) ?_
        obtain ⟨⟨hg, hl17⟩, h⟩ := g_ob h
        refine gn_getR C w fl_X9_17 (by omega) kth (by decide) hg (fun _ _ _ => rfl) dX9_init_57 ?_
        refine lv_iload_n C.1 C.2.1 dX9_init_60 rfl (lv_at hl 1 rfl) ?_
        refine lv_iconst (v := (-1)) C.1 C.2.1 dX9_init_61 (by decide) ?_
        obtain ⟨hb, h⟩ := g_ob h
        refine gn_iast C w (by omega) (kt_9_19 _ kth).2 hb dX9_init_62 (fun H locs w => ?_)
        refine lv_iinc (k := 1) (v := v1 + 1) (lv' := [(1, .int (v1 + 1)), (0, .ref (B.1 th))]) C.1 C.2.1 dX9_init_63 hl rfl rfl (by decide) rfl (fun ls hl => ?_)
        refine lv_goto (tgt := 50) C.1 C.2.1 dX9_init_66 (by decide) ?_
        refine W.cs (cells' := (n) - n0) (slots' := m9) (by omega) (by omega) ?_
        exact ih _ _ _ _ _ _ _ h (by omega) w (show lv_has ls 2 [(0, .ref (B.1 th)), (1, .int (v1 + 1))] from lv_sub hl [1, 0] rfl)
  have h := h0
  unfold F_X9_init at h
  refine lv_aload_n C.1 C.2.1 dX9_init_0 rfl (lv_at hl 0 rfl) ?_
  refine gn_obj C hl.1 mo_X9 im_obj cy_obj (Nat.le_of_ble_eq_true rfl) (Nat.le_of_ble_eq_true rfl) dX9_init_1 ?_
  refine lv_aload_n C.1 C.2.1 dX9_init_4 rfl (lv_at hl 0 rfl) ?_
  refine lv_iconst (v := (-1)) C.1 C.2.1 dX9_init_5 (by decide) ?_
  refine gn_putI C w fw_X9_7 (by omega) kth (by decide) (fun _ _ _ => rfl) rfl rfl dX9_init_6 (fun H locs w => ?_)
  refine lv_aload_n C.1 C.2.1 dX9_init_9 rfl (lv_at hl 0 rfl) ?_
  refine lv_iconst (v := 4) C.1 C.2.1 dX9_init_10 (by decide) ?_
  obtain ⟨⟨hk2, hln, hbc, hbs⟩, h⟩ := g_ob h
  refine gn_newa (N := 4) C w hk2 hln (by decide) (by decide) rfl (fun _ h => FieldType.noConfusion h) ac_int (by decide) rfl (by decide) (by show _ ≤ 5; omega) (by show _ ≤ 124; omega) dX9_init_11 (fun H w => ?_)
  refine gn_putR C w ff_X9_13 hname (by omega) kth (by decide) (fun _ _ _ => rfl) (fun _ => rfl) (fun _ => rfl) dX9_init_13 (fun H locs w => ?_)
  refine lv_aload_n C.1 C.2.1 dX9_init_16 rfl (lv_at hl 0 rfl) ?_
  refine lv_bipush (v := 30) C.1 C.2.1 dX9_init_17 (by decide) ?_
  obtain ⟨⟨hk5, hln, hbc, hbs⟩, h⟩ := g_ob h
  refine gn_newa (N := 30) C w hk5 hln (by decide) (by decide) rfl (fun _ h => FieldType.noConfusion h) ac_int (by decide) rfl (by decide) (by show _ ≤ 5; omega) (by show _ ≤ 124; omega) dX9_init_19 (fun H w => ?_)
  refine gn_putR C w ff_X9_17 hname (by omega) kth (by decide) (fun _ _ _ => rfl) (fun _ => rfl) (fun _ => rfl) dX9_init_21 (fun H locs w => ?_)
  refine lv_aload_n C.1 C.2.1 dX9_init_24 rfl (lv_at hl 0 rfl) ?_
  refine lv_bipush (v := 30) C.1 C.2.1 dX9_init_25 (by decide) ?_
  obtain ⟨⟨hk8, hln, hbc, hbs⟩, h⟩ := g_ob h
  refine gn_newa (N := 30) C w hk8 hln (by decide) (by decide) rfl (fun _ h => FieldType.noConfusion h) ac_int (by decide) rfl (by decide) (by show _ ≤ 5; omega) (by show _ ≤ 124; omega) dX9_init_27 (fun H w => ?_)
  refine gn_putR C w ff_X9_20 hname (by omega) kth (by decide) (fun _ _ _ => rfl) (fun _ => rfl) (fun _ => rfl) dX9_init_29 (fun H locs w => ?_)
  refine lv_aload_n C.1 C.2.1 dX9_init_32 rfl (lv_at hl 0 rfl) ?_
  refine lv_bipush (v := 30) C.1 C.2.1 dX9_init_33 (by decide) ?_
  obtain ⟨⟨hk11, hln, hbc, hbs⟩, h⟩ := g_ob h
  refine gn_newa (N := 30) C w hk11 hln (by decide) (by decide) rfl (fun _ h => FieldType.noConfusion h) ac_int (by decide) rfl (by decide) (by show _ ≤ 5; omega) (by show _ ≤ 124; omega) dX9_init_35 (fun H w => ?_)
  refine gn_putR C w ff_X9_23 hname (by omega) kth (by decide) (fun _ _ _ => rfl) (fun _ => rfl) (fun _ => rfl) dX9_init_37 (fun H locs w => ?_)
  refine lv_aload_n C.1 C.2.1 dX9_init_40 rfl (lv_at hl 0 rfl) ?_
  refine lv_bipush (v := 30) C.1 C.2.1 dX9_init_41 (by decide) ?_
  obtain ⟨⟨hk14, hln, hbc, hbs⟩, h⟩ := g_ob h
  refine gn_newa (N := 30) C w hk14 hln (by decide) (by decide) rfl (fun _ h => FieldType.noConfusion h) ac_int (by decide) rfl (by decide) (by show _ ≤ 5; omega) (by show _ ≤ 124; omega) dX9_init_43 (fun H w => ?_)
  refine gn_putR C w ff_X9_26 hname (by omega) kth (by decide) (fun _ _ _ => rfl) (fun _ => rfl) (fun _ => rfl) dX9_init_45 (fun H locs w => ?_)
  refine lv_iconst (v := 0) C.1 C.2.1 dX9_init_48 (by decide) ?_
  refine lv_istore_n (lv' := [(1, .int 0), (0, .ref (B.1 th))]) C.1 C.2.1 dX9_init_49 rfl hl (by decide) rfl (fun ls hl => ?_)
  refine W.cs (cells' := (n0 + 1 + 1 + 1 + 1 + 1) - n0) (slots' := 0 + 4 + 30 + 30 + 30 + 30) (by omega) (by omega) ?_
  exact B_50 _ _ _ _ _ _ _ _ h (by omega) w (show lv_has ls 2 [(0, .ref (B.1 th)), (1, .int 0)] from lv_sub hl [1, 0] rfl)

set_option maxHeartbeats 8000000 in
set_option maxRecDepth 100000 in
theorem m_X8_init {l : Launch} {D : va_G} {cA : Nat → ClassId} {B : BA} {n0 : Nat} {th : Nat} {σ : GS} {o : GS} (hth : th < n0) (kth : kdG th = 8) (h0 : F_X8_init σ n0 th = some o) : MN l yX8_init cX8_init 1 2 41 30 620 D cA B [.ref (B.1 th)] n0 σ (n0 + 30) o := by
  refine MN.of (by decide +kernel) (Nat.le_of_ble_eq_true rfl) ?_
  intro p e s m args below meth c C hr hname w ls hl
  have hco := w.2.1
  have hl : lv_has ls 1 [(0, .ref (B.1 th))] := hl
  have h := h0
  unfold F_X8_init at h
  refine lv_aload_n C.1 C.2.1 dX8_init_0 rfl (lv_at hl 0 rfl) ?_
  refine gn_obj C hl.1 mo_X8 im_obj cy_obj (Nat.le_of_ble_eq_true rfl) (Nat.le_of_ble_eq_true rfl) dX8_init_1 ?_
  refine lv_aload_n C.1 C.2.1 dX8_init_4 rfl (lv_at hl 0 rfl) ?_
  refine lv_iconst (v := (-1)) C.1 C.2.1 dX8_init_5 (by decide) ?_
  refine gn_putI C w fw_X8_7 (by omega) kth (by decide) (fun _ _ _ => rfl) rfl rfl dX8_init_6 (fun H locs w => ?_)
  refine lv_aload_n C.1 C.2.1 dX8_init_9 rfl (lv_at hl 0 rfl) ?_
  refine lv_bipush (v := 8) C.1 C.2.1 dX8_init_10 (by decide) ?_
  obtain ⟨⟨hk2, hln, hbc, hbs⟩, h⟩ := g_ob h
  refine gn_newa (N := 8) C w hk2 hln (by decide) (by decide) rfl (fun _ h => FieldType.noConfusion h) ac_int (by decide) rfl (by decide) (by show _ ≤ 30; omega) (by show _ ≤ 620; omega) dX8_init_12 (fun H w => ?_)
  refine gn_putR C w ff_X8_13 hname (by omega) kth (by decide) (fun _ _ _ => rfl) (fun _ => rfl) (fun _ => rfl) dX8_init_14 (fun H locs w => ?_)
  refine lv_aload_n C.1 C.2.1 dX8_init_17 rfl (lv_at hl 0 rfl) ?_
  refine lv_bipush (v := 8) C.1 C.2.1 dX8_init_18 (by decide) ?_
  obtain ⟨⟨hk5, hln, hbc, hbs⟩, h⟩ := g_ob h
  refine gn_newa (N := 8) C w hk5 hln (by decide) (by decide) rfl (fun _ h => FieldType.noConfusion h) ac_int (by decide) rfl (by decide) (by show _ ≤ 30; omega) (by show _ ≤ 620; omega) dX8_init_20 (fun H w => ?_)
  refine gn_putR C w ff_X8_17 hname (by omega) kth (by decide) (fun _ _ _ => rfl) (fun _ => rfl) (fun _ => rfl) dX8_init_22 (fun H locs w => ?_)
  refine lv_aload_n C.1 C.2.1 dX8_init_25 rfl (lv_at hl 0 rfl) ?_
  refine lv_iconst (v := 4) C.1 C.2.1 dX8_init_26 (by decide) ?_
  obtain ⟨⟨hk8, hln, hbc, hbs⟩, h⟩ := g_ob h
  refine gn_newa (N := 4) C w hk8 hln (by decide) (by decide) rfl (fun _ h => FieldType.noConfusion h) ac_int (by decide) rfl (by decide) (by show _ ≤ 30; omega) (by show _ ≤ 620; omega) dX8_init_27 (fun H w => ?_)
  refine gn_putR C w ff_X8_20 hname (by omega) kth (by decide) (fun _ _ _ => rfl) (fun _ => rfl) (fun _ => rfl) dX8_init_29 (fun H locs w => ?_)
  refine lv_aload_n C.1 C.2.1 dX8_init_32 rfl (lv_at hl 0 rfl) ?_
  refine lv_iconst (v := 4) C.1 C.2.1 dX8_init_33 (by decide) ?_
  obtain ⟨⟨hk11, hln, hbc, hbs⟩, h⟩ := g_ob h
  refine gn_newa (N := 4) C w hk11 hln (by decide) (by decide) rfl (fun _ h => FieldType.noConfusion h) ac_int (by decide) rfl (by decide) (by show _ ≤ 30; omega) (by show _ ≤ 620; omega) dX8_init_34 (fun H w => ?_)
  refine gn_putR C w ff_X8_23 hname (by omega) kth (by decide) (fun _ _ _ => rfl) (fun _ => rfl) (fun _ => rfl) dX8_init_36 (fun H locs w => ?_)
  refine lv_aload_n C.1 C.2.1 dX8_init_39 rfl (lv_at hl 0 rfl) ?_
  refine lv_iconst (v := 4) C.1 C.2.1 dX8_init_40 (by decide) ?_
  obtain ⟨⟨hk14, hln, hbc, hbs⟩, h⟩ := g_ob h
  refine gn_newa (N := 4) C w hk14 hln (by decide) (by decide) rfl (fun _ h => FieldType.noConfusion h) ac_int (by decide) rfl (by decide) (by show _ ≤ 30; omega) (by show _ ≤ 620; omega) dX8_init_41 (fun H w => ?_)
  refine gn_putR C w ff_X8_26 hname (by omega) kth (by decide) (fun _ _ _ => rfl) (fun _ => rfl) (fun _ => rfl) dX8_init_43 (fun H locs w => ?_)
  refine lv_aload_n C.1 C.2.1 dX8_init_46 rfl (lv_at hl 0 rfl) ?_
  refine lv_iconst (v := 4) C.1 C.2.1 dX8_init_47 (by decide) ?_
  obtain ⟨⟨hk17, hln, hbc, hbs⟩, h⟩ := g_ob h
  refine gn_newq (N := 4) C w hk17 hln (by decide) (by decide) rfl clk_X8_29 (by decide +kernel) (by decide) rfl (by decide) (by show _ ≤ 30; omega) (by show _ ≤ 620; omega) dX8_init_48 (fun H w => ?_)
  refine lv_dup C.1 C.2.1 dX8_init_51 rfl ?_
  refine lv_iconst (v := 0) C.1 C.2.1 dX8_init_52 (by decide) ?_
  obtain ⟨⟨hk19, hbc, hbs⟩, h⟩ := g_ob h
  refine gn_new C w hk19 (by decide) cl_9 clk_X8_29 ins_X9 in_X9 (show nF 9 = 23 from rfl) (by show _ ≤ 30; omega) (by show _ + 23 ≤ 620; omega) dX8_init_53 (fun H w => ?_)
  refine lv_dup C.1 C.2.1 dX8_init_56 rfl ?_
  obtain ⟨⟨hbc, hbs⟩, h⟩ := g_ob h
  obtain ⟨o21, ho21, h⟩ := g_bd h
  refine gn_init (np := 0) (As := []) (rest := [.ref (B.1 (n0 + 1 + 1 + 1 + 1 + 1 + 1)), .int 0, .ref (B.1 (n0 + 1 + 1 + 1 + 1 + 1)), .ref (B.1 (n0 + 1 + 1 + 1 + 1 + 1)), .ref (B.1 th)]) C w (m_X9_init (by omega) hk19 ho21) ml_X8_31 iy_X9_init in_X9 cy_X9_init rfl ⟨by decide +kernel, by decide +kernel, by decide +kernel⟩ rfl ⟨Nat.le_of_ble_eq_true rfl, Nat.le_of_ble_eq_true rfl⟩ rfl (Nat.le_of_ble_eq_true rfl) hl.1 ⟨by show _ ≤ 30; omega, by show _ ≤ 620; omega⟩ dX8_init_57 (fun H locs w => ?_)
  obtain ⟨hb, h⟩ := g_ob h
  refine gn_aast C w (by omega) hk17 (by decide) (by decide) rfl (by omega) hk19 (by decide) (cl_9).1 hb dX8_init_60 (fun H locs w => ?_)
  refine lv_dup C.1 C.2.1 dX8_init_61 rfl ?_
  refine lv_iconst (v := 1) C.1 C.2.1 dX8_init_62 (by decide) ?_
  obtain ⟨⟨hk23, hbc, hbs⟩, h⟩ := g_ob h
  refine gn_new C w hk23 (by decide) cl_9 clk_X8_29 ins_X9 in_X9 (show nF 9 = 23 from rfl) (by show _ ≤ 30; omega) (by show _ + 23 ≤ 620; omega) dX8_init_63 (fun H w => ?_)
  refine lv_dup C.1 C.2.1 dX8_init_66 rfl ?_
  obtain ⟨⟨hbc, hbs⟩, h⟩ := g_ob h
  obtain ⟨o25, ho25, h⟩ := g_bd h
  refine gn_init (np := 0) (As := []) (rest := [.ref (B.1 (n0 + 1 + 1 + 1 + 1 + 1 + 1 + 1 + 5)), .int 1, .ref (B.1 (n0 + 1 + 1 + 1 + 1 + 1)), .ref (B.1 (n0 + 1 + 1 + 1 + 1 + 1)), .ref (B.1 th)]) C w (m_X9_init (by omega) hk23 ho25) ml_X8_31 iy_X9_init in_X9 cy_X9_init rfl ⟨by decide +kernel, by decide +kernel, by decide +kernel⟩ rfl ⟨Nat.le_of_ble_eq_true rfl, Nat.le_of_ble_eq_true rfl⟩ rfl (Nat.le_of_ble_eq_true rfl) hl.1 ⟨by show _ ≤ 30; omega, by show _ ≤ 620; omega⟩ dX8_init_67 (fun H locs w => ?_)
  obtain ⟨hb, h⟩ := g_ob h
  refine gn_aast C w (by omega) hk17 (by decide) (by decide) rfl (by omega) hk23 (by decide) (cl_9).1 hb dX8_init_70 (fun H locs w => ?_)
  refine lv_dup C.1 C.2.1 dX8_init_71 rfl ?_
  refine lv_iconst (v := 2) C.1 C.2.1 dX8_init_72 (by decide) ?_
  obtain ⟨⟨hk27, hbc, hbs⟩, h⟩ := g_ob h
  refine gn_new C w hk27 (by decide) cl_9 clk_X8_29 ins_X9 in_X9 (show nF 9 = 23 from rfl) (by show _ ≤ 30; omega) (by show _ + 23 ≤ 620; omega) dX8_init_73 (fun H w => ?_)
  refine lv_dup C.1 C.2.1 dX8_init_76 rfl ?_
  obtain ⟨⟨hbc, hbs⟩, h⟩ := g_ob h
  obtain ⟨o29, ho29, h⟩ := g_bd h
  refine gn_init (np := 0) (As := []) (rest := [.ref (B.1 (n0 + 1 + 1 + 1 + 1 + 1 + 1 + 1 + 5 + 1 + 5)), .int 2, .ref (B.1 (n0 + 1 + 1 + 1 + 1 + 1)), .ref (B.1 (n0 + 1 + 1 + 1 + 1 + 1)), .ref (B.1 th)]) C w (m_X9_init (by omega) hk27 ho29) ml_X8_31 iy_X9_init in_X9 cy_X9_init rfl ⟨by decide +kernel, by decide +kernel, by decide +kernel⟩ rfl ⟨Nat.le_of_ble_eq_true rfl, Nat.le_of_ble_eq_true rfl⟩ rfl (Nat.le_of_ble_eq_true rfl) hl.1 ⟨by show _ ≤ 30; omega, by show _ ≤ 620; omega⟩ dX8_init_77 (fun H locs w => ?_)
  obtain ⟨hb, h⟩ := g_ob h
  refine gn_aast C w (by omega) hk17 (by decide) (by decide) rfl (by omega) hk27 (by decide) (cl_9).1 hb dX8_init_80 (fun H locs w => ?_)
  refine lv_dup C.1 C.2.1 dX8_init_81 rfl ?_
  refine lv_iconst (v := 3) C.1 C.2.1 dX8_init_82 (by decide) ?_
  obtain ⟨⟨hk31, hbc, hbs⟩, h⟩ := g_ob h
  refine gn_new C w hk31 (by decide) cl_9 clk_X8_29 ins_X9 in_X9 (show nF 9 = 23 from rfl) (by show _ ≤ 30; omega) (by show _ + 23 ≤ 620; omega) dX8_init_83 (fun H w => ?_)
  refine lv_dup C.1 C.2.1 dX8_init_86 rfl ?_
  obtain ⟨⟨hbc, hbs⟩, h⟩ := g_ob h
  obtain ⟨o33, ho33, h⟩ := g_bd h
  refine gn_init (np := 0) (As := []) (rest := [.ref (B.1 (n0 + 1 + 1 + 1 + 1 + 1 + 1 + 1 + 5 + 1 + 5 + 1 + 5)), .int 3, .ref (B.1 (n0 + 1 + 1 + 1 + 1 + 1)), .ref (B.1 (n0 + 1 + 1 + 1 + 1 + 1)), .ref (B.1 th)]) C w (m_X9_init (by omega) hk31 ho33) ml_X8_31 iy_X9_init in_X9 cy_X9_init rfl ⟨by decide +kernel, by decide +kernel, by decide +kernel⟩ rfl ⟨Nat.le_of_ble_eq_true rfl, Nat.le_of_ble_eq_true rfl⟩ rfl (Nat.le_of_ble_eq_true rfl) hl.1 ⟨by show _ ≤ 30; omega, by show _ ≤ 620; omega⟩ dX8_init_87 (fun H locs w => ?_)
  obtain ⟨hb, h⟩ := g_ob h
  refine gn_aast C w (by omega) hk17 (by decide) (by decide) rfl (by omega) hk31 (by decide) (cl_9).1 hb dX8_init_90 (fun H locs w => ?_)
  refine gn_putR C w ff_X8_32 hname (by omega) kth (by decide) (fun _ _ _ => rfl) (fun _ => rfl) (fun _ => rfl) dX8_init_91 (fun H locs w => ?_)
  obtain ⟨⟨hen, hes⟩, h⟩ := g_ob h
  refine W.widen (k := 30) (n := 620) (by omega) (by omega) ?_
  exact gn_retE C w hen hr dX8_init_94 h

