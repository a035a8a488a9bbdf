set_option maxHeartbeats 8000000 in
set_option maxRecDepth 100000 in
theorem mx_X9_init {l : Launch} {D : va_G} {cA : Nat → ClassId} {B : BA} {A : Nat → Prop} {n0 : Nat} {th : Nat} {σ : GS} {o : GS} (hth : th < n0) (kth : kdG th = 9) (h0 : F_X9_init σ n0 th = some o) : MNx l yX9_init cX9_init 2 1 20 5 124 D cA B A [.ref (B.1 th)] n0 σ (n0 + 5) o := by
  refine MNx.of (by decide +kernel) (Nat.le_of_ble_eq_true rfl) ?_
  intro p e s m args below meth c C hr hname w ls hl
  have hco := w.2.1
  have hl : lv_has ls 2 [(0, .ref (B.1 th))] := hl
  have B_50 : ∀ (k : Nat) (σ : GS) (n m9 : Nat) (v1 : Int32) (H : Heap) (locs : List Loc) (ls : Array Slot), L_X9_init_50 n0 th k σ n m9 v1 = some o → n0 ≤ n → WNx D cA B A n σ s H locs → lv_has ls 2 [(0, .ref (B.1 th)), (1, .int v1)] → W p l e (rmN 1 20 5 124) s m args below meth c H locs (n - n0) m9 (MQ below (QNx D cA B A (n0 + 5) o) args s 5 124 A) (F0 m 50 ls []) := by
    intro k
    induction k with
    | zero => intro σ n m9 v1 H locs ls h; exact nomatch (show (none : Option GS) = some o from h)
    | succ k ih =>
      intro σ n m9 v1 H locs ls h hn w hl
      unfold L_X9_init_50 at h
      refine lv_iload_n C.1 C.2.1 dX9_init_50 rfl (lv_at hl 1 rfl) ?_
      refine lv_bipush (v := 30) C.1 C.2.1 dX9_init_51 (by decide) ?_
      refine lv_icmp_ge (tgt := 69) C.1 C.2.1 dX9_init_53 (by decide) (fun hc => ?_) (fun hc => ?_)
      · have h := (if_pos hc).symm.trans h
        obtain ⟨⟨hen, hes⟩, h⟩ := g_ob h
        refine W.widen (k := 5) (n := 124) (by omega) (by omega) ?_
        exact gx_retE C w hen hr dX9_init_69 h
      · have h := (if_neg hc).symm.trans h
        refine lv_aload_n C.1 C.2.1 dX9_init_56 rfl (lv_at hl 0 rfl) ?_
        obtain ⟨⟨hg, hl17⟩, h⟩ := g_ob h
        refine gx_getR C w fl_X9_17 (by omega) kth (by decide) hg (fun _ _ _ => rfl) dX9_init_57 ?_
        refine lv_iload_n C.1 C.2.1 dX9_init_60 rfl (lv_at hl 1 rfl) ?_
        refine lv_iconst (v := (-1)) C.1 C.2.1 dX9_init_61 (by decide) ?_
        obtain ⟨hb, h⟩ := g_ob h
        refine gx_iast C w (by omega) (kt_9_19 _ kth).2 hb dX9_init_62 (fun H locs w => ?_)
        refine lv_iinc (k := 1) (v := v1 + 1) (lv' := [(1, .int (v1 + 1)), (0, .ref (B.1 th))]) C.1 C.2.1 dX9_init_63 hl rfl rfl (by decide) rfl (fun ls hl => ?_)
        refine lv_goto (tgt := 50) C.1 C.2.1 dX9_init_66 (by decide) ?_
        refine W.cs (cells' := (n) - n0) (slots' := m9) (by omega) (by omega) ?_
        exact ih _ _ _ _ _ _ _ h (by omega) w (show lv_has ls 2 [(0, .ref (B.1 th)), (1, .int (v1 + 1))] from lv_sub hl [1, 0] rfl)
  have h := h0
  unfold F_X9_init at h
  refine lv_aload_n C.1 C.2.1 dX9_init_0 rfl (lv_at hl 0 rfl) ?_
  refine gx_obj C hl.1 mo_X9 im_obj cy_obj (Nat.le_of_ble_eq_true rfl) (Nat.le_of_ble_eq_true rfl) dX9_init_1 ?_
  refine lv_aload_n C.1 C.2.1 dX9_init_4 rfl (lv_at hl 0 rfl) ?_
  refine lv_iconst (v := (-1)) C.1 C.2.1 dX9_init_5 (by decide) ?_
  refine gx_putI C w fw_X9_7 (by omega) kth (by decide) (fun _ _ _ => rfl) rfl rfl dX9_init_6 (fun H locs w => ?_)
  refine lv_aload_n C.1 C.2.1 dX9_init_9 rfl (lv_at hl 0 rfl) ?_
  refine lv_iconst (v := 4) C.1 C.2.1 dX9_init_10 (by decide) ?_
  obtain ⟨⟨hk2, hln, hbc, hbs⟩, h⟩ := g_ob h
  refine gx_newa (N := 4) C w hk2 hln (by decide) (by decide) rfl (fun _ h => FieldType.noConfusion h) ac_int (by decide) rfl (by decide) (by show _ ≤ 5; omega) (by show _ ≤ 124; omega) dX9_init_11 (fun H w => ?_)
  refine gx_putR C w ff_X9_13 hname (by omega) kth (by decide) (fun _ _ _ => rfl) (fun _ => rfl) (fun _ => rfl) dX9_init_13 (fun H locs w => ?_)
  refine lv_aload_n C.1 C.2.1 dX9_init_16 rfl (lv_at hl 0 rfl) ?_
  refine lv_bipush (v := 30) C.1 C.2.1 dX9_init_17 (by decide) ?_
  obtain ⟨⟨hk5, hln, hbc, hbs⟩, h⟩ := g_ob h
  refine gx_newa (N := 30) C w hk5 hln (by decide) (by decide) rfl (fun _ h => FieldType.noConfusion h) ac_int (by decide) rfl (by decide) (by show _ ≤ 5; omega) (by show _ ≤ 124; omega) dX9_init_19 (fun H w => ?_)
  refine gx_putR C w ff_X9_17 hname (by omega) kth (by decide) (fun _ _ _ => rfl) (fun _ => rfl) (fun _ => rfl) dX9_init_21 (fun H locs w => ?_)
  refine lv_aload_n C.1 C.2.1 dX9_init_24 rfl (lv_at hl 0 rfl) ?_
  refine lv_bipush (v := 30) C.1 C.2.1 dX9_init_25 (by decide) ?_
  obtain ⟨⟨hk8, hln, hbc, hbs⟩, h⟩ := g_ob h
  refine gx_newa (N := 30) C w hk8 hln (by decide) (by decide) rfl (fun _ h => FieldType.noConfusion h) ac_int (by decide) rfl (by decide) (by show _ ≤ 5; omega) (by show _ ≤ 124; omega) dX9_init_27 (fun H w => ?_)
  refine gx_putR C w ff_X9_20 hname (by omega) kth (by decide) (fun _ _ _ => rfl) (fun _ => rfl) (fun _ => rfl) dX9_init_29 (fun H locs w => ?_)
  refine lv_aload_n C.1 C.2.1 dX9_init_32 rfl (lv_at hl 0 rfl) ?_
  refine lv_bipush (v := 30) C.1 C.2.1 dX9_init_33 (by decide) ?_
  obtain ⟨⟨hk11, hln, hbc, hbs⟩, h⟩ := g_ob h
  refine gx_newa (N := 30) C w hk11 hln (by decide) (by decide) rfl (fun _ h => FieldType.noConfusion h) ac_int (by decide) rfl (by decide) (by show _ ≤ 5; omega) (by show _ ≤ 124; omega) dX9_init_35 (fun H w => ?_)
  refine gx_putR C w ff_X9_23 hname (by omega) kth (by decide) (fun _ _ _ => rfl) (fun _ => rfl) (fun _ => rfl) dX9_init_37 (fun H locs w => ?_)
  refine lv_aload_n C.1 C.2.1 dX9_init_40 rfl (lv_at hl 0 rfl) ?_
  refine lv_bipush (v := 30) C.1 C.2.1 dX9_init_41 (by decide) ?_
  obtain ⟨⟨hk14, hln, hbc, hbs⟩, h⟩ := g_ob h
  refine gx_newa (N := 30) C w hk14 hln (by decide) (by decide) rfl (fun _ h => FieldType.noConfusion h) ac_int (by decide) rfl (by decide) (by show _ ≤ 5; omega) (by show _ ≤ 124; omega) dX9_init_43 (fun H w => ?_)
  refine gx_putR C w ff_X9_26 hname (by omega) kth (by decide) (fun _ _ _ => rfl) (fun _ => rfl) (fun _ => rfl) dX9_init_45 (fun H locs w => ?_)
  refine lv_iconst (v := 0) C.1 C.2.1 dX9_init_48 (by decide) ?_
  refine lv_istore_n (lv' := [(1, .int 0), (0, .ref (B.1 th))]) C.1 C.2.1 dX9_init_49 rfl hl (by decide) rfl (fun ls hl => ?_)
  refine W.cs (cells' := (n0 + 1 + 1 + 1 + 1 + 1) - n0) (slots' := 0 + 4 + 30 + 30 + 30 + 30) (by omega) (by omega) ?_
  exact B_50 _ _ _ _ _ _ _ _ h (by omega) w (show lv_has ls 2 [(0, .ref (B.1 th)), (1, .int 0)] from lv_sub hl [1, 0] rfl)

set_option maxHeartbeats 8000000 in
set_option maxRecDepth 100000 in
theorem mx_X8_init {l : Launch} {D : va_G} {cA : Nat → ClassId} {B : BA} {A : Nat → Prop} {n0 : Nat} {th : Nat} {σ : GS} {o : GS} (hth : th < n0) (kth : kdG th = 8) (h0 : F_X8_init σ n0 th = some o) : MNx l yX8_init cX8_init 1 2 41 30 620 D cA B A [.ref (B.1 th)] n0 σ (n0 + 30) o := by
  refine MNx.of (by decide +kernel) (Nat.le_of_ble_eq_true rfl) ?_
  intro p e s m args below meth c C hr hname w ls hl
  have hco := w.2.1
  have hl : lv_has ls 1 [(0, .ref (B.1 th))] := hl
  have h := h0
  unfold F_X8_init at h
  refine lv_aload_n C.1 C.2.1 dX8_init_0 rfl (lv_at hl 0 rfl) ?_
  refine gx_obj C hl.1 mo_X8 im_obj cy_obj (Nat.le_of_ble_eq_true rfl) (Nat.le_of_ble_eq_true rfl) dX8_init_1 ?_
  refine lv_aload_n C.1 C.2.1 dX8_init_4 rfl (lv_at hl 0 rfl) ?_
  refine lv_iconst (v := (-1)) C.1 C.2.1 dX8_init_5 (by decide) ?_
  refine gx_putI C w fw_X8_7 (by omega) kth (by decide) (fun _ _ _ => rfl) rfl rfl dX8_init_6 (fun H locs w => ?_)
  refine lv_aload_n C.1 C.2.1 dX8_init_9 rfl (lv_at hl 0 rfl) ?_
  refine lv_bipush (v := 8) C.1 C.2.1 dX8_init_10 (by decide) ?_
  obtain ⟨⟨hk2, hln, hbc, hbs⟩, h⟩ := g_ob h
  refine gx_newa (N := 8) C w hk2 hln (by decide) (by decide) rfl (fun _ h => FieldType.noConfusion h) ac_int (by decide) rfl (by decide) (by show _ ≤ 30; omega) (by show _ ≤ 620; omega) dX8_init_12 (fun H w => ?_)
  refine gx_putR C w ff_X8_13 hname (by omega) kth (by decide) (fun _ _ _ => rfl) (fun _ => rfl) (fun _ => rfl) dX8_init_14 (fun H locs w => ?_)
  refine lv_aload_n C.1 C.2.1 dX8_init_17 rfl (lv_at hl 0 rfl) ?_
  refine lv_bipush (v := 8) C.1 C.2.1 dX8_init_18 (by decide) ?_
  obtain ⟨⟨hk5, hln, hbc, hbs⟩, h⟩ := g_ob h
  refine gx_newa (N := 8) C w hk5 hln (by decide) (by decide) rfl (fun _ h => FieldType.noConfusion h) ac_int (by decide) rfl (by decide) (by show _ ≤ 30; omega) (by show _ ≤ 620; omega) dX8_init_20 (fun H w => ?_)
  refine gx_putR C w ff_X8_17 hname (by omega) kth (by decide) (fun _ _ _ => rfl) (fun _ => rfl) (fun _ => rfl) dX8_init_22 (fun H locs w => ?_)
  refine lv_aload_n C.1 C.2.1 dX8_init_25 rfl (lv_at hl 0 rfl) ?_
  refine lv_iconst (v := 4) C.1 C.2.1 dX8_init_26 (by decide) ?_
  obtain ⟨⟨hk8, hln, hbc, hbs⟩, h⟩ := g_ob h
  refine gx_newa (N := 4) C w hk8 hln (by decide) (by decide) rfl (fun _ h => FieldType.noConfusion h) ac_int (by decide) rfl (by decide) (by show _ ≤ 30; omega) (by show _ ≤ 620; omega) dX8_init_27 (fun H w => ?_)
  refine gx_putR C w ff_X8_20 hname (by omega) kth (by decide) (fun _ _ _ => rfl) (fun _ => rfl) (fun _ => rfl) dX8_init_29 (fun H locs w => ?_)
  refine lv_aload_n C.1 C.2.1 dX8_init_32 rfl (lv_at hl 0 rfl) ?_
  refine lv_iconst (v := 4) C.1 C.2.1 dX8_init_33 (by decide) ?_
  obtain ⟨⟨hk11, hln, hbc, hbs⟩, h⟩ := g_ob h
  refine gx_newa (N := 4) C w hk11 hln (by decide) (by decide) rfl (fun _ h => FieldType.noConfusion h) ac_int (by decide) rfl (by decide) (by show _ ≤ 30; omega) (by show _ ≤ 620; omega) dX8_init_34 (fun H w => ?_)
  refine gx_putR C w ff_X8_23 hname (by omega) kth (by decide) (fun _ _ _ => rfl) (fun _ => rfl) (fun _ => rfl) dX8_init_36 (fun H locs w => ?_)
  refine lv_aload_n C.1 C.2.1 dX8_init_39 rfl (lv_at hl 0 rfl) ?_
  refine lv_iconst (v := 4) C.1 C.2.1 dX8_init_40 (by decide) ?_
  obtain ⟨⟨hk14, hln, hbc, hbs⟩, h⟩ := g_ob h
  refine gx_newa (N := 4) C w hk14 hln (by decide) (by decide) rfl (fun _ h => FieldType.noConfusion h) ac_int (by decide) rfl (by decide) (by show _ ≤ 30; omega) (by show _ ≤ 620; omega) dX8_init_41 (fun H w => ?_)
  refine gx_putR C w ff_X8_26 hname (by omega) kth (by decide) (fun _ _ _ => rfl) (fun _ => rfl) (fun _ => rfl) dX8_init_43 (fun H locs w => ?_)
  refine lv_aload_n C.1 C.2.1 dX8_init_46 rfl (lv_at hl 0 rfl) ?_
  refine lv_iconst (v := 4) C.1 C.2.1 dX8_init_47 (by decide) ?_
  obtain ⟨⟨hk17, hln, hbc, hbs⟩, h⟩ := g_ob h
  refine gx_newq (N := 4) C w hk17 hln (by decide) (by decide) rfl clk_X8_29 (by decide +kernel) (by decide) rfl (by decide) (by show _ ≤ 30; omega) (by show _ ≤ 620; omega) dX8_init_48 (fun H w => ?_)
  refine lv_dup C.1 C.2.1 dX8_init_51 rfl ?_
  refine lv_iconst (v := 0) C.1 C.2.1 dX8_init_52 (by decide) ?_
  obtain ⟨⟨hk19, hbc, hbs⟩, h⟩ := g_ob h
  refine gx_new C w hk19 (by decide) cl_9 clk_X8_29 ins_X9 in_X9 (show nF 9 = 23 from rfl) (by show _ ≤ 30; omega) (by show _ + 23 ≤ 620; omega) dX8_init_53 (fun H w => ?_)
  refine lv_dup C.1 C.2.1 dX8_init_56 rfl ?_
  obtain ⟨⟨hbc, hbs⟩, h⟩ := g_ob h
  obtain ⟨o21, ho21, h⟩ := g_bd h
  refine gx_init (np := 0) (As := []) (rest := [.ref (B.1 (n0 + 1 + 1 + 1 + 1 + 1 + 1)), .int 0, .ref (B.1 (n0 + 1 + 1 + 1 + 1 + 1)), .ref (B.1 (n0 + 1 + 1 + 1 + 1 + 1)), .ref (B.1 th)]) C w (mx_X9_init (by omega) hk19 ho21) ml_X8_31 iy_X9_init in_X9 cy_X9_init rfl ⟨by decide +kernel, by decide +kernel, by decide +kernel⟩ rfl ⟨Nat.le_of_ble_eq_true rfl, Nat.le_of_ble_eq_true rfl⟩ rfl (Nat.le_of_ble_eq_true rfl) hl.1 ⟨by show _ ≤ 30; omega, by show _ ≤ 620; omega⟩ dX8_init_57 (fun H locs w => ?_)
  obtain ⟨hb, h⟩ := g_ob h
  refine gx_aast C w (by omega) hk17 (by decide) (by decide) rfl (by omega) hk19 (by decide) (cl_9).1 hb dX8_init_60 (fun H locs w => ?_)
  refine lv_dup C.1 C.2.1 dX8_init_61 rfl ?_
  refine lv_iconst (v := 1) C.1 C.2.1 dX8_init_62 (by decide) ?_
  obtain ⟨⟨hk23, hbc, hbs⟩, h⟩ := g_ob h
  refine gx_new C w hk23 (by decide) cl_9 clk_X8_29 ins_X9 in_X9 (show nF 9 = 23 from rfl) (by show _ ≤ 30; omega) (by show _ + 23 ≤ 620; omega) dX8_init_63 (fun H w => ?_)
  refine lv_dup C.1 C.2.1 dX8_init_66 rfl ?_
  obtain ⟨⟨hbc, hbs⟩, h⟩ := g_ob h
  obtain ⟨o25, ho25, h⟩ := g_bd h
  refine gx_init (np := 0) (As := []) (rest := [.ref (B.1 (n0 + 1 + 1 + 1 + 1 + 1 + 1 + 1 + 5)), .int 1, .ref (B.1 (n0 + 1 + 1 + 1 + 1 + 1)), .ref (B.1 (n0 + 1 + 1 + 1 + 1 + 1)), .ref (B.1 th)]) C w (mx_X9_init (by omega) hk23 ho25) ml_X8_31 iy_X9_init in_X9 cy_X9_init rfl ⟨by decide +kernel, by decide +kernel, by decide +kernel⟩ rfl ⟨Nat.le_of_ble_eq_true rfl, Nat.le_of_ble_eq_true rfl⟩ rfl (Nat.le_of_ble_eq_true rfl) hl.1 ⟨by show _ ≤ 30; omega, by show _ ≤ 620; omega⟩ dX8_init_67 (fun H locs w => ?_)
  obtain ⟨hb, h⟩ := g_ob h
  refine gx_aast C w (by omega) hk17 (by decide) (by decide) rfl (by omega) hk23 (by decide) (cl_9).1 hb dX8_init_70 (fun H locs w => ?_)
  refine lv_dup C.1 C.2.1 dX8_init_71 rfl ?_
  refine lv_iconst (v := 2) C.1 C.2.1 dX8_init_72 (by decide) ?_
  obtain ⟨⟨hk27, hbc, hbs⟩, h⟩ := g_ob h
  refine gx_new C w hk27 (by decide) cl_9 clk_X8_29 ins_X9 in_X9 (show nF 9 = 23 from rfl) (by show _ ≤ 30; omega) (by show _ + 23 ≤ 620; omega) dX8_init_73 (fun H w => ?_)
  refine lv_dup C.1 C.2.1 dX8_init_76 rfl ?_
  obtain ⟨⟨hbc, hbs⟩, h⟩ := g_ob h
  obtain ⟨o29, ho29, h⟩ := g_bd h
  refine gx_init (np := 0) (As := []) (rest := [.ref (B.1 (n0 + 1 + 1 + 1 + 1 + 1 + 1 + 1 + 5 + 1 + 5)), .int 2, .ref (B.1 (n0 + 1 + 1 + 1 + 1 + 1)), .ref (B.1 (n0 + 1 + 1 + 1 + 1 + 1)), .ref (B.1 th)]) C w (mx_X9_init (by omega) hk27 ho29) ml_X8_31 iy_X9_init in_X9 cy_X9_init rfl ⟨by decide +kernel, by decide +kernel, by decide +kernel⟩ rfl ⟨Nat.le_of_ble_eq_true rfl, Nat.le_of_ble_eq_true rfl⟩ rfl (Nat.le_of_ble_eq_true rfl) hl.1 ⟨by show _ ≤ 30; omega, by show _ ≤ 620; omega⟩ dX8_init_77 (fun H locs w => ?_)
  obtain ⟨hb, h⟩ := g_ob h
  refine gx_aast C w (by omega) hk17 (by decide) (by decide) rfl (by omega) hk27 (by decide) (cl_9).1 hb dX8_init_80 (fun H locs w => ?_)
  refine lv_dup C.1 C.2.1 dX8_init_81 rfl ?_
  refine lv_iconst (v := 3) C.1 C.2.1 dX8_init_82 (by decide) ?_
  obtain ⟨⟨hk31, hbc, hbs⟩, h⟩ := g_ob h
  refine gx_new C w hk31 (by decide) cl_9 clk_X8_29 ins_X9 in_X9 (show nF 9 = 23 from rfl) (by show _ ≤ 30; omega) (by show _ + 23 ≤ 620; omega) dX8_init_83 (fun H w => ?_)
  refine lv_dup C.1 C.2.1 dX8_init_86 rfl ?_
  obtain ⟨⟨hbc, hbs⟩, h⟩ := g_ob h
  obtain ⟨o33, ho33, h⟩ := g_bd h
  refine gx_init (np := 0) (As := []) (rest := [.ref (B.1 (n0 + 1 + 1 + 1 + 1 + 1 + 1 + 1 + 5 + 1 + 5 + 1 + 5)), .int 3, .ref (B.1 (n0 + 1 + 1 + 1 + 1 + 1)), .ref (B.1 (n0 + 1 + 1 + 1 + 1 + 1)), .ref (B.1 th)]) C w (mx_X9_init (by omega) hk31 ho33) ml_X8_31 iy_X9_init in_X9 cy_X9_init rfl ⟨by decide +kernel, by decide +kernel, by decide +kernel⟩ rfl ⟨Nat.le_of_ble_eq_true rfl, Nat.le_of_ble_eq_true rfl⟩ rfl (Nat.le_of_ble_eq_true rfl) hl.1 ⟨by show _ ≤ 30; omega, by show _ ≤ 620; omega⟩ dX8_init_87 (fun H locs w => ?_)
  obtain ⟨hb, h⟩ := g_ob h
  refine gx_aast C w (by omega) hk17 (by decide) (by decide) rfl (by omega) hk31 (by decide) (cl_9).1 hb dX8_init_90 (fun H locs w => ?_)
  refine gx_putR C w ff_X8_32 hname (by omega) kth (by decide) (fun _ _ _ => rfl) (fun _ => rfl) (fun _ => rfl) dX8_init_91 (fun H locs w => ?_)
  obtain ⟨⟨hen, hes⟩, h⟩ := g_ob h
  refine W.widen (k := 30) (n := 620) (by omega) (by omega) ?_
  exact gx_retE C w hen hr dX8_init_94 h

