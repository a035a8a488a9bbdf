set_option maxHeartbeats 4000000 in
set_option maxRecDepth 100000 in
theorem m_X0_keep {l : Launch} {D : va_G} {cA : Nat → ClassId} {B : Nat} {S : Nat → Prop} {σ : GS} {th : Nat} {a1 : Nat} {o : GS} (sth : S th) (kth : kdG th = 0) (sa1 : S a1) (ka1 : kdG a1 = 5) (h0 : F_X0_keep σ th a1 = some o) : MF l yX0_keep cX0_keep 2 none 3 65 D cA B S [.ref (B + th), .ref (B + a1)] σ o none := by
  refine MF.of (by decide +kernel) (Nat.le_of_ble_eq_true rfl) ?_
  intro p e s m args below meth c C hr w ls hl
  have hl : lv_has ls 2 [(0, .ref (B + th)), (1, .ref (B + a1))] := hl
  have B_32 : ∀ (σ : GS) (u0 : Int32) (H : Heap) (locs : List Loc) (ls : Array Slot), J_X0_keep_32 th a1 σ u0 = some o → WS D cA B S σ s H locs → lv_has ls 2 [(0, .ref (B + th)), (1, .ref (B + a1))] → W p l e (rmF 3 65) s m args below meth c H locs 0 0 (MQ below (QF D cA B S o none) args s 0 0 (AB B S)) (F0 m 32 ls [.int u0, .ref (B + th)]) := by
    intro σ u0 H locs ls h  w hl
    unfold J_X0_keep_32 at h
    refine g_putI C w fw_X0_24 sth kth (by decide) (fun _ _ _ => rfl) rfl rfl dX0_keep_32 (fun H locs w => ?_)
    refine lv_aload_n C.1 C.2.1 dX0_keep_35 rfl (lv_at hl 0 rfl) ?_
    refine g_getR C w fl_X0_11 sth kth (by decide) kt_0_0 (fun _ _ _ => rfl) dX0_keep_36 (fun s3 k3 => ?_)
    refine lv_aload_n C.1 C.2.1 dX0_keep_39 rfl (lv_at hl 0 rfl) ?_
    refine g_getI C w fl_X0_24 sth kth (by decide) (fun _ _ _ => rfl) dX0_keep_40 ?_
    obtain ⟨hb, h⟩ := g_ob h
    refine g_aald C w s3 k3 (by decide) (by decide) rfl rfl (fun _ _ _ _ => rfl) kr_14 hb dX0_keep_43 (fun s4 k4 => ?_)
    refine lv_aload_n C.1 C.2.1 dX0_keep_44 rfl (lv_at hl 1 rfl) ?_
    obtain ⟨o5, ho5, h⟩ := g_bd h
    refine g_callV (n := 1) (As := [.ref (B + a1)]) (rest := []) C w (m_X5_copyFrom s4 k4 sa1 ka1 ho5) (cl_5).1 s4 k4 (by decide) ml_X0_27 iy_X5_copyFrom sy_X5_copyFrom in_X5 cy_X5_copyFrom ⟨rfl, by decide +kernel, by decide +kernel, by decide +kernel⟩ rfl ⟨Nat.le_of_ble_eq_true rfl, Nat.le_of_ble_eq_true rfl⟩ rfl (Nat.le_of_ble_eq_true rfl) hl.1 ⟨Nat.le_of_ble_eq_true rfl, Nat.le_of_ble_eq_true rfl⟩ dX0_keep_45 (fun H locs w => ?_)
    refine lv_aload_n C.1 C.2.1 dX0_keep_48 rfl (lv_at hl 0 rfl) ?_
    refine g_getI C w fl_X0_20 sth kth (by decide) (fun _ _ _ => rfl) dX0_keep_49 ?_
    refine lv_aload_n C.1 C.2.1 dX0_keep_52 rfl (lv_at hl 0 rfl) ?_
    refine g_getR C w fl_X0_11 sth kth (by decide) kt_0_0 (fun _ _ _ => rfl) dX0_keep_53 (fun s6 k6 => ?_)
    refine g_alen C w s6 k6 (by decide) (by decide) dX0_keep_56 ?_
    refine lv_icmp_ge (tgt := 70) C.1 C.2.1 dX0_keep_57 (by decide) (fun hc => ?_) (fun hc => ?_)
    · have h := (if_pos hc).symm.trans h
      exact g_vretV C w hr dX0_keep_70 h
    · have h := (if_neg hc).symm.trans h
      refine lv_aload_n C.1 C.2.1 dX0_keep_60 rfl (lv_at hl 0 rfl) ?_
      refine lv_dup C.1 C.2.1 dX0_keep_61 rfl ?_
      refine g_getI C w fl_X0_20 sth kth (by decide) (fun _ _ _ => rfl) dX0_keep_62 ?_
      refine lv_iconst (v := 1) C.1 C.2.1 dX0_keep_65 (by decide) ?_
      refine lv_iadd C.1 C.2.1 dX0_keep_66 ?_
      refine g_putI C w fw_X0_20 sth kth (by decide) (fun _ _ _ => rfl) rfl rfl dX0_keep_67 (fun H locs w => ?_)
      exact g_vretV C w hr dX0_keep_70 h
  have B_31 : ∀ (σ : GS) (H : Heap) (locs : List Loc) (ls : Array Slot), J_X0_keep_31 th a1 σ = some o → WS D cA B S σ s H locs → lv_has ls 2 [(0, .ref (B + th)), (1, .ref (B + a1))] → W p l e (rmF 3 65) s m args below meth c H locs 0 0 (MQ below (QF D cA B S o none) args s 0 0 (AB B S)) (F0 m 31 ls [.ref (B + th)]) := by
    intro σ H locs ls h  w hl
    unfold J_X0_keep_31 at h
    refine lv_iconst (v := 0) C.1 C.2.1 dX0_keep_31 (by decide) ?_
    exact B_32 _ _ _ _ _ h w (show lv_has ls 2 [(0, .ref (B + th)), (1, .ref (B + a1))] from lv_sub hl [0, 1] rfl)
  have h := h0
  unfold F_X0_keep at h
  refine lv_aload_n C.1 C.2.1 dX0_keep_0 rfl (lv_at hl 0 rfl) ?_
  refine lv_aload_n C.1 C.2.1 dX0_keep_1 rfl (lv_at hl 0 rfl) ?_
  refine g_getI C w fl_X0_24 sth kth (by decide) (fun _ _ _ => rfl) dX0_keep_2 ?_
  refine lv_if_lt (tgt := 31) C.1 C.2.1 dX0_keep_5 (by decide) (fun hc => ?_) (fun hc => ?_)
  · have h := (if_pos hc).symm.trans h
    exact B_31 _ _ _ _ h w (show lv_has ls 2 [(0, .ref (B + th)), (1, .ref (B + a1))] from lv_sub hl [0, 1] rfl)
  · have h := (if_neg hc).symm.trans h
    refine lv_aload_n C.1 C.2.1 dX0_keep_8 rfl (lv_at hl 0 rfl) ?_
    refine g_getI C w fl_X0_24 sth kth (by decide) (fun _ _ _ => rfl) dX0_keep_9 ?_
    refine lv_aload_n C.1 C.2.1 dX0_keep_12 rfl (lv_at hl 0 rfl) ?_
    refine g_getR C w fl_X0_11 sth kth (by decide) kt_0_0 (fun _ _ _ => rfl) dX0_keep_13 (fun s1 k1 => ?_)
    refine g_alen C w s1 k1 (by decide) (by decide) dX0_keep_16 ?_
    refine lv_iconst (v := 1) C.1 C.2.1 dX0_keep_17 (by decide) ?_
    refine lv_isub C.1 C.2.1 dX0_keep_18 ?_
    refine lv_icmp_ge (tgt := 31) C.1 C.2.1 dX0_keep_19 (by decide) (fun hc => ?_) (fun hc => ?_)
    · have h := (if_pos hc).symm.trans h
      exact B_31 _ _ _ _ h w (show lv_has ls 2 [(0, .ref (B + th)), (1, .ref (B + a1))] from lv_sub hl [0, 1] rfl)
    · have h := (if_neg hc).symm.trans h
      refine lv_aload_n C.1 C.2.1 dX0_keep_22 rfl (lv_at hl 0 rfl) ?_
      refine g_getI C w fl_X0_24 sth kth (by decide) (fun _ _ _ => rfl) dX0_keep_23 ?_
      refine lv_iconst (v := 1) C.1 C.2.1 dX0_keep_26 (by decide) ?_
      refine lv_iadd C.1 C.2.1 dX0_keep_27 ?_
      refine lv_goto (tgt := 32) C.1 C.2.1 dX0_keep_28 (by decide) ?_
      exact B_32 _ _ _ _ _ h w (show lv_has ls 2 [(0, .ref (B + th)), (1, .ref (B + a1))] from lv_sub hl [0, 1] rfl)

set_option maxHeartbeats 4000000 in
set_option maxRecDepth 100000 in
theorem m_X0_takeBack {l : Launch} {D : va_G} {cA : Nat → ClassId} {B : Nat} {S : Nat → Prop} {σ : GS} {th : Nat} {a1 : Nat} {o : GS × Int32} (sth : S th) (kth : kdG th = 0) (sa1 : S a1) (ka1 : kdG a1 = 5) (h0 : F_X0_takeBack σ th a1 = some o) : MF l yX0_takeBack cX0_takeBack 2 (some .boolean) 3 65 D cA B S [.ref (B + th), .ref (B + a1)] σ o.1 (some (.int o.2)) := by
  refine MF.of (by decide +kernel) (Nat.le_of_ble_eq_true rfl) ?_
  intro p e s m args below meth c C hr w ls hl
  have hl : lv_has ls 2 [(0, .ref (B + th)), (1, .ref (B + a1))] := hl
  have B_65 : ∀ (σ : GS) (u0 : Int32) (H : Heap) (locs : List Loc) (ls : Array Slot), J_X0_takeBack_65 th a1 σ u0 = some o → WS D cA B S σ s H locs → lv_has ls 2 [(0, .ref (B + th))] → W p l e (rmF 3 65) s m args below meth c H locs 0 0 (MQ below (QF D cA B S o.1 (some (.int o.2))) args s 0 0 (AB B S)) (F0 m 65 ls [.int u0, .ref (B + th)]) := by
    intro σ u0 H locs ls h  w hl
    unfold J_X0_takeBack_65 at h
    refine g_putI C w fw_X0_24 sth kth (by decide) (fun _ _ _ => rfl) rfl rfl dX0_takeBack_65 (fun H locs w => ?_)
    refine lv_aload_n C.1 C.2.1 dX0_takeBack_68 rfl (lv_at hl 0 rfl) ?_
    refine lv_dup C.1 C.2.1 dX0_takeBack_69 rfl ?_
    refine g_getI C w fl_X0_20 sth kth (by decide) (fun _ _ _ => rfl) dX0_takeBack_70 ?_
    refine lv_iconst (v := 1) C.1 C.2.1 dX0_takeBack_73 (by decide) ?_
    refine lv_isub C.1 C.2.1 dX0_takeBack_74 ?_
    refine g_putI C w fw_X0_20 sth kth (by decide) (fun _ _ _ => rfl) rfl rfl dX0_takeBack_75 (fun H locs w => ?_)
    refine lv_iconst (v := 1) C.1 C.2.1 dX0_takeBack_78 (by decide) ?_
    exact g_zretB C w hr (by decide) dX0_takeBack_79 h
  have h := h0
  unfold F_X0_takeBack at h
  refine lv_aload_n C.1 C.2.1 dX0_takeBack_0 rfl (lv_at hl 0 rfl) ?_
  refine g_getI C w fl_X0_20 sth kth (by decide) (fun _ _ _ => rfl) dX0_takeBack_1 ?_
  refine lv_if_eq (tgt := 26) C.1 C.2.1 dX0_takeBack_4 (by decide) (fun hc => ?_) (fun hc => ?_)
  · have h := (if_pos hc).symm.trans h
    refine lv_iconst (v := 0) C.1 C.2.1 dX0_takeBack_26 (by decide) ?_
    exact g_zretB C w hr (by decide) dX0_takeBack_27 h
  · have h := (if_neg hc).symm.trans h
    refine lv_aload_n C.1 C.2.1 dX0_takeBack_7 rfl (lv_at hl 0 rfl) ?_
    refine g_getI C w fl_X0_24 sth kth (by decide) (fun _ _ _ => rfl) dX0_takeBack_8 ?_
    refine lv_if_lt (tgt := 26) C.1 C.2.1 dX0_takeBack_11 (by decide) (fun hc => ?_) (fun hc => ?_)
    · have h := (if_pos hc).symm.trans h
      refine lv_iconst (v := 0) C.1 C.2.1 dX0_takeBack_26 (by decide) ?_
      exact g_zretB C w hr (by decide) dX0_takeBack_27 h
    · have h := (if_neg hc).symm.trans h
      refine lv_aload_n C.1 C.2.1 dX0_takeBack_14 rfl (lv_at hl 0 rfl) ?_
      refine g_getI C w fl_X0_24 sth kth (by decide) (fun _ _ _ => rfl) dX0_takeBack_15 ?_
      refine lv_aload_n C.1 C.2.1 dX0_takeBack_18 rfl (lv_at hl 0 rfl) ?_
      refine g_getR C w fl_X0_11 sth kth (by decide) kt_0_0 (fun _ _ _ => rfl) dX0_takeBack_19 (fun s1 k1 => ?_)
      refine g_alen C w s1 k1 (by decide) (by decide) dX0_takeBack_22 ?_
      refine lv_icmp_lt (tgt := 28) C.1 C.2.1 dX0_takeBack_23 (by decide) (fun hc => ?_) (fun hc => ?_)
      · have h := (if_pos hc).symm.trans h
        refine lv_aload_n C.1 C.2.1 dX0_takeBack_28 rfl (lv_at hl 1 rfl) ?_
        refine lv_aload_n C.1 C.2.1 dX0_takeBack_29 rfl (lv_at hl 0 rfl) ?_
        refine g_getR C w fl_X0_11 sth kth (by decide) kt_0_0 (fun _ _ _ => rfl) dX0_takeBack_30 (fun s2 k2 => ?_)
        refine lv_aload_n C.1 C.2.1 dX0_takeBack_33 rfl (lv_at hl 0 rfl) ?_
        refine g_getI C w fl_X0_24 sth kth (by decide) (fun _ _ _ => rfl) dX0_takeBack_34 ?_
        obtain ⟨hb, h⟩ := g_ob h
        refine g_aald C w s2 k2 (by decide) (by decide) rfl rfl (fun _ _ _ _ => rfl) kr_14 hb dX0_takeBack_37 (fun s3 k3 => ?_)
        obtain ⟨o4, ho4, h⟩ := g_bd h
        refine g_callV (n := 1) (As := [.ref (B + (rfG (rfG th 0) (gI σ th 1).toNatClampNeg))]) (rest := []) C w (m_X5_copyFrom sa1 ka1 s3 k3 ho4) (cl_5).1 sa1 ka1 (by decide) ml_X0_27 iy_X5_copyFrom sy_X5_copyFrom in_X5 cy_X5_copyFrom ⟨rfl, by decide +kernel, by decide +kernel, by decide +kernel⟩ rfl ⟨Nat.le_of_ble_eq_true rfl, Nat.le_of_ble_eq_true rfl⟩ rfl (Nat.le_of_ble_eq_true rfl) hl.1 ⟨Nat.le_of_ble_eq_true rfl, Nat.le_of_ble_eq_true rfl⟩ dX0_takeBack_38 (fun H locs w => ?_)
        refine lv_aload_n C.1 C.2.1 dX0_takeBack_41 rfl (lv_at hl 0 rfl) ?_
        refine lv_aload_n C.1 C.2.1 dX0_takeBack_42 rfl (lv_at hl 0 rfl) ?_
        refine g_getI C w fl_X0_24 sth kth (by decide) (fun _ _ _ => rfl) dX0_takeBack_43 ?_
        refine lv_if_le (tgt := 58) C.1 C.2.1 dX0_takeBack_46 (by decide) (fun hc => ?_) (fun hc => ?_)
        · have h := (if_pos hc).symm.trans h
          refine lv_aload_n C.1 C.2.1 dX0_takeBack_58 rfl (lv_at hl 0 rfl) ?_
          refine g_getR C w fl_X0_11 sth kth (by decide) kt_0_0 (fun _ _ _ => rfl) dX0_takeBack_59 (fun s5 k5 => ?_)
          refine g_alen C w s5 k5 (by decide) (by decide) dX0_takeBack_62 ?_
          refine lv_iconst (v := 1) C.1 C.2.1 dX0_takeBack_63 (by decide) ?_
          refine lv_isub C.1 C.2.1 dX0_takeBack_64 ?_
          exact B_65 _ _ _ _ _ h w (show lv_has ls 2 [(0, .ref (B + th))] from lv_sub hl [0] rfl)
        · have h := (if_neg hc).symm.trans h
          refine lv_aload_n C.1 C.2.1 dX0_takeBack_49 rfl (lv_at hl 0 rfl) ?_
          refine g_getI C w fl_X0_24 sth kth (by decide) (fun _ _ _ => rfl) dX0_takeBack_50 ?_
          refine lv_iconst (v := 1) C.1 C.2.1 dX0_takeBack_53 (by decide) ?_
          refine lv_isub C.1 C.2.1 dX0_takeBack_54 ?_
          refine lv_goto (tgt := 65) C.1 C.2.1 dX0_takeBack_55 (by decide) ?_
          exact B_65 _ _ _ _ _ h w (show lv_has ls 2 [(0, .ref (B + th))] from lv_sub hl [0] rfl)
      · have h := (if_neg hc).symm.trans h
        refine lv_iconst (v := 0) C.1 C.2.1 dX0_takeBack_26 (by decide) ?_
        exact g_zretB C w hr (by decide) dX0_takeBack_27 h

set_option maxHeartbeats 4000000 in
set_option maxRecDepth 100000 in
theorem m_X1_clear {l : Launch} {D : va_G} {cA : Nat → ClassId} {B : Nat} {S : Nat → Prop} {σ : GS} {th : Nat} {o : GS} (sth : S th) (kth : kdG th = 1) (h0 : F_X1_clear σ th = some o) : MF l yX1_clear cX1_clear 5 none 2 41 D cA B S [.ref (B + th)] σ o none := by
  refine MF.of (by decide +kernel) (Nat.le_of_ble_eq_true rfl) ?_
  intro p e s m args below meth c C hr w ls hl
  have hl : lv_has ls 5 [(0, .ref (B + th))] := hl
  have B_31 : ∀ (n31 : Nat) (σ : GS) (v3 : Int32) (H : Heap) (locs : List Loc) (ls : Array Slot), L_X1_clear_31 th n31 σ v3 = some o → S (rfG th 3) → kdG (rfG th 3) = 15 → WS D cA B S σ s H locs → lv_has ls 5 [(0, .ref (B + th)), (1, .ref (B + (rfG th 3))), (2, .int (nI (lnG (rfG th 3)))), (3, .int v3)] → W p l e (rmF 2 41) s m args below meth c H locs 0 0 (MQ below (QF D cA B S o none) args s 0 0 (AB B S)) (F0 m 31 ls []) := by
    intro n31
    induction n31 with
    | zero => intro σ v3 H locs ls h; exact nomatch (show (none : Option (GS)) = some o from h)
    | succ n31 ih31 =>
      intro σ v3 H locs ls h s7 k7 w hl
      unfold L_X1_clear_31 at h
      refine lv_iload_n C.1 C.2.1 dX1_clear_31 rfl (lv_at hl 3 rfl) ?_
      refine lv_iload_n C.1 C.2.1 dX1_clear_32 rfl (lv_at hl 2 rfl) ?_
      refine lv_icmp_ge (tgt := 52) C.1 C.2.1 dX1_clear_33 (by decide) (fun hc => ?_) (fun hc => ?_)
      · have h := (if_pos hc).symm.trans h
        refine lv_aload_n C.1 C.2.1 dX1_clear_52 rfl (lv_at hl 0 rfl) ?_
        refine lv_iconst (v := 1) C.1 C.2.1 dX1_clear_53 (by decide) ?_
        refine g_putI C w fw_X1_36 sth kth (by decide) (fun _ _ _ => rfl) rfl rfl dX1_clear_54 (fun H locs w => ?_)
        refine lv_aload_n C.1 C.2.1 dX1_clear_57 rfl (lv_at hl 0 rfl) ?_
        refine lv_iconst (v := 1) C.1 C.2.1 dX1_clear_58 (by decide) ?_
        refine g_putI C w fw_X1_40 sth kth (by decide) (fun _ _ _ => rfl) rfl rfl dX1_clear_59 (fun H locs w => ?_)
        refine lv_aload_n C.1 C.2.1 dX1_clear_62 rfl (lv_at hl 0 rfl) ?_
        refine lv_iconst (v := 1) C.1 C.2.1 dX1_clear_63 (by decide) ?_
        refine g_putI C w fw_X1_43 sth kth (by decide) (fun _ _ _ => rfl) rfl rfl dX1_clear_64 (fun H locs w => ?_)
        refine lv_aload_n C.1 C.2.1 dX1_clear_67 rfl (lv_at hl 0 rfl) ?_
        refine lv_bipush (v := 10) C.1 C.2.1 dX1_clear_68 (by decide) ?_
        refine g_putI C w fw_X1_46 sth kth (by decide) (fun _ _ _ => rfl) rfl rfl dX1_clear_70 (fun H locs w => ?_)
        refine lv_aload_n C.1 C.2.1 dX1_clear_73 rfl (lv_at hl 0 rfl) ?_
        refine lv_iconst (v := 0) C.1 C.2.1 dX1_clear_74 (by decide) ?_
        refine g_putI C w fw_X1_49 sth kth (by decide) (fun _ _ _ => rfl) rfl rfl dX1_clear_75 (fun H locs w => ?_)
        refine lv_aload_n C.1 C.2.1 dX1_clear_78 rfl (lv_at hl 0 rfl) ?_
        refine lv_iconst (v := 0) C.1 C.2.1 dX1_clear_79 (by decide) ?_
        refine g_putI C w fw_X1_52 sth kth (by decide) (fun _ _ _ => rfl) rfl rfl dX1_clear_80 (fun H locs w => ?_)
        refine lv_aload_n C.1 C.2.1 dX1_clear_83 rfl (lv_at hl 0 rfl) ?_
        refine lv_iconst (v := 0) C.1 C.2.1 dX1_clear_84 (by decide) ?_
        refine g_putI C w fw_X1_55 sth kth (by decide) (fun _ _ _ => rfl) rfl rfl dX1_clear_85 (fun H locs w => ?_)
        refine lv_aload_n C.1 C.2.1 dX1_clear_88 rfl (lv_at hl 0 rfl) ?_
        refine lv_iconst (v := 0) C.1 C.2.1 dX1_clear_89 (by decide) ?_
        refine g_putI C w fw_X1_58 sth kth (by decide) (fun _ _ _ => rfl) rfl rfl dX1_clear_90 (fun H locs w => ?_)
        exact g_vretV C w hr dX1_clear_93 h
      · have h := (if_neg hc).symm.trans h
        refine lv_aload_n C.1 C.2.1 dX1_clear_36 rfl (lv_at hl 1 rfl) ?_
        refine lv_iload_n C.1 C.2.1 dX1_clear_37 rfl (lv_at hl 3 rfl) ?_
        obtain ⟨hb, h⟩ := g_ob h
        refine g_aald C w s7 k7 (by decide) (by decide) rfl rfl (fun _ _ _ _ => rfl) kr_15 hb dX1_clear_38 (fun s16 k16 => ?_)
        refine lv_astore (lv' := [(4, .ref (B + (rfG (rfG th 3) v3.toNatClampNeg))), (0, .ref (B + th)), (1, .ref (B + (rfG th 3))), (2, .int (nI (lnG (rfG th 3)))), (3, .int v3)]) C.1 C.2.1 dX1_clear_39 hl (by decide) rfl (fun ls hl => ?_)
        refine lv_aload C.1 C.2.1 dX1_clear_41 (lv_at hl 0 rfl) ?_
        obtain ⟨o17, ho17, h⟩ := g_bd h
        refine g_callV (n := 0) (As := []) (rest := []) C w (m_X6_clear s16 k16 ho17) (cl_6).1 s16 k16 (by decide) ml_X1_35 iy_X6_clear sy_X6_clear in_X6 cy_X6_clear ⟨rfl, by decide +kernel, by decide +kernel, by decide +kernel⟩ rfl ⟨Nat.le_of_ble_eq_true rfl, Nat.le_of_ble_eq_true rfl⟩ rfl (Nat.le_of_ble_eq_true rfl) hl.1 ⟨Nat.le_of_ble_eq_true rfl, Nat.le_of_ble_eq_true rfl⟩ dX1_clear_43 (fun H locs w => ?_)
        refine lv_iinc (k := 4) (v := v3 + 1) (lv' := [(3, .int (v3 + 1)), (4, .ref (B + (rfG (rfG th 3) v3.toNatClampNeg))), (0, .ref (B + th)), (1, .ref (B + (rfG th 3))), (2, .int (nI (lnG (rfG th 3))))]) C.1 C.2.1 dX1_clear_46 hl rfl rfl (by decide) rfl (fun ls hl => ?_)
        refine lv_goto (tgt := 31) C.1 C.2.1 dX1_clear_49 (by decide) ?_
        exact ih31 _ _ _ _ _ h s7 k7 w (show lv_has ls 5 [(0, .ref (B + th)), (1, .ref (B + (rfG th 3))), (2, .int (nI (lnG (rfG th 3)))), (3, .int (v3 + 1))] from lv_sub hl [2, 3, 4, 0] rfl)
  have h := h0
  unfold F_X1_clear at h
  refine lv_aload_n C.1 C.2.1 dX1_clear_0 rfl (lv_at hl 0 rfl) ?_
  refine g_getR C w fl_X1_9 sth kth (by decide) kt_1_0 (fun _ _ _ => rfl) dX1_clear_1 (fun s1 k1 => ?_)
  obtain ⟨o2, ho2, h⟩ := g_bd h
  refine g_callN (n := 1) (As := [.ref (B + (rfG th 0))]) (rest := []) C w (m_X7_clearRow s1 k1 ho2) nl_X1_31 iy_X7_clearRow in_X7 cy_X7_clearRow ⟨by decide +kernel, by decide +kernel, by decide +kernel⟩ rfl ⟨Nat.le_of_ble_eq_true rfl, Nat.le_of_ble_eq_true rfl⟩ rfl (Nat.le_of_ble_eq_true rfl) hl.1 ⟨Nat.le_of_ble_eq_true rfl, Nat.le_of_ble_eq_true rfl⟩ dX1_clear_4 (fun H locs w => ?_)
  refine lv_aload_n C.1 C.2.1 dX1_clear_7 rfl (lv_at hl 0 rfl) ?_
  refine g_getR C w fl_X1_15 sth kth (by decide) kt_1_1 (fun _ _ _ => rfl) dX1_clear_8 (fun s3 k3 => ?_)
  obtain ⟨o4, ho4, h⟩ := g_bd h
  refine g_callN (n := 1) (As := [.ref (B + (rfG th 1))]) (rest := []) C w (m_X7_clearRow s3 k3 ho4) nl_X1_31 iy_X7_clearRow in_X7 cy_X7_clearRow ⟨by decide +kernel, by decide +kernel, by decide +kernel⟩ rfl ⟨Nat.le_of_ble_eq_true rfl, Nat.le_of_ble_eq_true rfl⟩ rfl (Nat.le_of_ble_eq_true rfl) hl.1 ⟨Nat.le_of_ble_eq_true rfl, Nat.le_of_ble_eq_true rfl⟩ dX1_clear_11 (fun H locs w => ?_)
  refine lv_aload_n C.1 C.2.1 dX1_clear_14 rfl (lv_at hl 0 rfl) ?_
  refine g_getR C w fl_X1_18 sth kth (by decide) kt_1_2 (fun _ _ _ => rfl) dX1_clear_15 (fun s5 k5 => ?_)
  obtain ⟨o6, ho6, h⟩ := g_bd h
  refine g_callN (n := 1) (As := [.ref (B + (rfG th 2))]) (rest := []) C w (m_X7_clearRow s5 k5 ho6) nl_X1_31 iy_X7_clearRow in_X7 cy_X7_clearRow ⟨by decide +kernel, by decide +kernel, by decide +kernel⟩ rfl ⟨Nat.le_of_ble_eq_true rfl, Nat.le_of_ble_eq_true rfl⟩ rfl (Nat.le_of_ble_eq_true rfl) hl.1 ⟨Nat.le_of_ble_eq_true rfl, Nat.le_of_ble_eq_true rfl⟩ dX1_clear_18 (fun H locs w => ?_)
  refine lv_aload_n C.1 C.2.1 dX1_clear_21 rfl (lv_at hl 0 rfl) ?_
  refine g_getR C w fl_X1_23 sth kth (by decide) kt_1_3 (fun _ _ _ => rfl) dX1_clear_22 (fun s7 k7 => ?_)
  refine lv_astore_n (lv' := [(1, .ref (B + (rfG th 3))), (0, .ref (B + th))]) C.1 C.2.1 dX1_clear_25 rfl hl (by decide) rfl (fun ls hl => ?_)
  refine lv_aload_n C.1 C.2.1 dX1_clear_26 rfl (lv_at hl 0 rfl) ?_
  refine g_alen C w s7 k7 (by decide) (by decide) dX1_clear_27 ?_
  refine lv_istore_n (lv' := [(2, .int (nI (lnG (rfG th 3)))), (1, .ref (B + (rfG th 3))), (0, .ref (B + th))]) C.1 C.2.1 dX1_clear_28 rfl hl (by decide) rfl (fun ls hl => ?_)
  refine lv_iconst (v := 0) C.1 C.2.1 dX1_clear_29 (by decide) ?_
  refine lv_istore_n (lv' := [(3, .int 0), (2, .int (nI (lnG (rfG th 3)))), (1, .ref (B + (rfG th 3))), (0, .ref (B + th))]) C.1 C.2.1 dX1_clear_30 rfl hl (by decide) rfl (fun ls hl => ?_)
  exact B_31 _ _ _ _ _ _ h s7 k7 w (show lv_has ls 5 [(0, .ref (B + th)), (1, .ref (B + (rfG th 3))), (2, .int (nI (lnG (rfG th 3)))), (3, .int 0)] from lv_sub hl [3, 2, 1, 0] rfl)

set_option maxHeartbeats 4000000 in
set_option maxRecDepth 100000 in
theorem m_X1_copyFrom {l : Launch} {D : va_G} {cA : Nat → ClassId} {B : Nat} {S : Nat → Prop} {σ : GS} {th : Nat} {a1 : Nat} {o : GS} (sth : S th) (kth : kdG th = 1) (sa1 : S a1) (ka1 : kdG a1 = 1) (h0 : F_X1_copyFrom σ th a1 = some o) : MF l yX1_copyFrom cX1_copyFrom 3 none 2 43 D cA B S [.ref (B + th), .ref (B + a1)] σ o none := by
  refine MF.of (by decide +kernel) (Nat.le_of_ble_eq_true rfl) ?_
  intro p e s m args below meth c C hr w ls hl
  have hl : lv_has ls 3 [(0, .ref (B + th)), (1, .ref (B + a1))] := hl
  have B_74 : ∀ (σ : GS) (H : Heap) (locs : List Loc) (ls : Array Slot), J_X1_copyFrom_74 th a1 σ = some o → WS D cA B S σ s H locs → lv_has ls 3 [(0, .ref (B + th)), (1, .ref (B + a1))] → W p l e (rmF 2 43) s m args below meth c H locs 0 0 (MQ below (QF D cA B S o none) args s 0 0 (AB B S)) (F0 m 74 ls []) := by
    intro σ H locs ls h  w hl
    unfold J_X1_copyFrom_74 at h
    refine lv_aload_n C.1 C.2.1 dX1_copyFrom_74 rfl (lv_at hl 0 rfl) ?_
    refine lv_aload_n C.1 C.2.1 dX1_copyFrom_75 rfl (lv_at hl 1 rfl) ?_
    refine g_getI C w fl_X1_36 sa1 ka1 (by decide) (fun _ _ _ => rfl) dX1_copyFrom_76 ?_
    refine g_putI C w fw_X1_36 sth kth (by decide) (fun _ _ _ => rfl) rfl rfl dX1_copyFrom_79 (fun H locs w => ?_)
    refine lv_aload_n C.1 C.2.1 dX1_copyFrom_82 rfl (lv_at hl 0 rfl) ?_
    refine lv_aload_n C.1 C.2.1 dX1_copyFrom_83 rfl (lv_at hl 1 rfl) ?_
    refine g_getI C w fl_X1_40 sa1 ka1 (by decide) (fun _ _ _ => rfl) dX1_copyFrom_84 ?_
    refine g_putI C w fw_X1_40 sth kth (by decide) (fun _ _ _ => rfl) rfl rfl dX1_copyFrom_87 (fun H locs w => ?_)
    refine lv_aload_n C.1 C.2.1 dX1_copyFrom_90 rfl (lv_at hl 0 rfl) ?_
    refine lv_aload_n C.1 C.2.1 dX1_copyFrom_91 rfl (lv_at hl 1 rfl) ?_
    refine g_getI C w fl_X1_43 sa1 ka1 (by decide) (fun _ _ _ => rfl) dX1_copyFrom_92 ?_
    refine g_putI C w fw_X1_43 sth kth (by decide) (fun _ _ _ => rfl) rfl rfl dX1_copyFrom_95 (fun H locs w => ?_)
    refine lv_aload_n C.1 C.2.1 dX1_copyFrom_98 rfl (lv_at hl 0 rfl) ?_
    refine lv_aload_n C.1 C.2.1 dX1_copyFrom_99 rfl (lv_at hl 1 rfl) ?_
    refine g_getI C w fl_X1_46 sa1 ka1 (by decide) (fun _ _ _ => rfl) dX1_copyFrom_100 ?_
    refine g_putI C w fw_X1_46 sth kth (by decide) (fun _ _ _ => rfl) rfl rfl dX1_copyFrom_103 (fun H locs w => ?_)
    refine lv_aload_n C.1 C.2.1 dX1_copyFrom_106 rfl (lv_at hl 0 rfl) ?_
    refine lv_aload_n C.1 C.2.1 dX1_copyFrom_107 rfl (lv_at hl 1 rfl) ?_
    refine g_getI C w fl_X1_49 sa1 ka1 (by decide) (fun _ _ _ => rfl) dX1_copyFrom_108 ?_
    refine g_putI C w fw_X1_49 sth kth (by decide) (fun _ _ _ => rfl) rfl rfl dX1_copyFrom_111 (fun H locs w => ?_)
    refine lv_aload_n C.1 C.2.1 dX1_copyFrom_114 rfl (lv_at hl 0 rfl) ?_
    refine lv_aload_n C.1 C.2.1 dX1_copyFrom_115 rfl (lv_at hl 1 rfl) ?_
    refine g_getI C w fl_X1_52 sa1 ka1 (by decide) (fun _ _ _ => rfl) dX1_copyFrom_116 ?_
    refine g_putI C w fw_X1_52 sth kth (by decide) (fun _ _ _ => rfl) rfl rfl dX1_copyFrom_119 (fun H locs w => ?_)
    refine lv_aload_n C.1 C.2.1 dX1_copyFrom_122 rfl (lv_at hl 0 rfl) ?_
    refine lv_aload_n C.1 C.2.1 dX1_copyFrom_123 rfl (lv_at hl 1 rfl) ?_
    refine g_getI C w fl_X1_55 sa1 ka1 (by decide) (fun _ _ _ => rfl) dX1_copyFrom_124 ?_
    refine g_putI C w fw_X1_55 sth kth (by decide) (fun _ _ _ => rfl) rfl rfl dX1_copyFrom_127 (fun H locs w => ?_)
    refine lv_aload_n C.1 C.2.1 dX1_copyFrom_130 rfl (lv_at hl 0 rfl) ?_
    refine lv_aload_n C.1 C.2.1 dX1_copyFrom_131 rfl (lv_at hl 1 rfl) ?_
    refine g_getI C w fl_X1_58 sa1 ka1 (by decide) (fun _ _ _ => rfl) dX1_copyFrom_132 ?_
    refine g_putI C w fw_X1_58 sth kth (by decide) (fun _ _ _ => rfl) rfl rfl dX1_copyFrom_135 (fun H locs w => ?_)
    exact g_vretV C w hr dX1_copyFrom_138 h
  have B_35 : ∀ (n35 : Nat) (σ : GS) (v2 : Int32) (H : Heap) (locs : List Loc) (ls : Array Slot), L_X1_copyFrom_35 th a1 n35 σ v2 = some o → WS D cA B S σ s H locs → lv_has ls 3 [(0, .ref (B + th)), (1, .ref (B + a1)), (2, .int v2)] → W p l e (rmF 2 43) s m args below meth c H locs 0 0 (MQ below (QF D cA B S o none) args s 0 0 (AB B S)) (F0 m 35 ls []) := by
    intro n35
    induction n35 with
    | zero => intro σ v2 H locs ls h; exact nomatch (show (none : Option (GS)) = some o from h)
    | succ n35 ih35 =>
      intro σ v2 H locs ls h  w hl
      unfold L_X1_copyFrom_35 at h
      refine lv_iload_n C.1 C.2.1 dX1_copyFrom_35 rfl (lv_at hl 2 rfl) ?_
      refine lv_aload_n C.1 C.2.1 dX1_copyFrom_36 rfl (lv_at hl 0 rfl) ?_
      refine g_getR C w fl_X1_23 sth kth (by decide) kt_1_3 (fun _ _ _ => rfl) dX1_copyFrom_37 (fun s10 k10 => ?_)
      refine g_alen C w s10 k10 (by decide) (by decide) dX1_copyFrom_40 ?_
      refine lv_icmp_ge (tgt := 74) C.1 C.2.1 dX1_copyFrom_41 (by decide) (fun hc => ?_) (fun hc => ?_)
      · have h := (if_pos hc).symm.trans h
        exact B_74 _ _ _ _ h w (show lv_has ls 3 [(0, .ref (B + th)), (1, .ref (B + a1))] from lv_sub hl [0, 1] rfl)
      · have h := (if_neg hc).symm.trans h
        refine lv_iload_n C.1 C.2.1 dX1_copyFrom_44 rfl (lv_at hl 2 rfl) ?_
        refine lv_aload_n C.1 C.2.1 dX1_copyFrom_45 rfl (lv_at hl 1 rfl) ?_
        refine g_getR C w fl_X1_23 sa1 ka1 (by decide) kt_1_3 (fun _ _ _ => rfl) dX1_copyFrom_46 (fun s11 k11 => ?_)
        refine g_alen C w s11 k11 (by decide) (by decide) dX1_copyFrom_49 ?_
        refine lv_icmp_ge (tgt := 74) C.1 C.2.1 dX1_copyFrom_50 (by decide) (fun hc => ?_) (fun hc => ?_)
        · have h := (if_pos hc).symm.trans h
          exact B_74 _ _ _ _ h w (show lv_has ls 3 [(0, .ref (B + th)), (1, .ref (B + a1))] from lv_sub hl [0, 1] rfl)
        · have h := (if_neg hc).symm.trans h
          refine lv_aload_n C.1 C.2.1 dX1_copyFrom_53 rfl (lv_at hl 0 rfl) ?_
          refine g_getR C w fl_X1_23 sth kth (by decide) kt_1_3 (fun _ _ _ => rfl) dX1_copyFrom_54 (fun s12 k12 => ?_)
          refine lv_iload_n C.1 C.2.1 dX1_copyFrom_57 rfl (lv_at hl 2 rfl) ?_
          obtain ⟨hb, h⟩ := g_ob h
          refine g_aald C w s12 k12 (by decide) (by decide) rfl rfl (fun _ _ _ _ => rfl) kr_15 hb dX1_copyFrom_58 (fun s13 k13 => ?_)
          refine lv_aload_n C.1 C.2.1 dX1_copyFrom_59 rfl (lv_at hl 1 rfl) ?_
          refine g_getR C w fl_X1_23 sa1 ka1 (by decide) kt_1_3 (fun _ _ _ => rfl) dX1_copyFrom_60 (fun s14 k14 => ?_)
          refine lv_iload_n C.1 C.2.1 dX1_copyFrom_63 rfl (lv_at hl 2 rfl) ?_
          obtain ⟨hb, h⟩ := g_ob h
          refine g_aald C w s14 k14 (by decide) (by decide) rfl rfl (fun _ _ _ _ => rfl) kr_15 hb dX1_copyFrom_64 (fun s15 k15 => ?_)
          obtain ⟨o16, ho16, h⟩ := g_bd h
          refine g_callV (n := 1) (As := [.ref (B + (rfG (rfG a1 3) v2.toNatClampNeg))]) (rest := []) C w (m_X6_copyFrom s13 k13 s15 k15 ho16) (cl_6).1 s13 k13 (by decide) ml_X1_65 iy_X6_copyFrom sy_X6_copyFrom in_X6 cy_X6_copyFrom ⟨rfl, by decide +kernel, by decide +kernel, by decide +kernel⟩ rfl ⟨Nat.le_of_ble_eq_true rfl, Nat.le_of_ble_eq_true rfl⟩ rfl (Nat.le_of_ble_eq_true rfl) hl.1 ⟨Nat.le_of_ble_eq_true rfl, Nat.le_of_ble_eq_true rfl⟩ dX1_copyFrom_65 (fun H locs w => ?_)
          refine lv_iinc (k := 2) (v := v2 + 1) (lv' := [(2, .int (v2 + 1)), (0, .ref (B + th)), (1, .ref (B + a1))]) C.1 C.2.1 dX1_copyFrom_68 hl rfl rfl (by decide) rfl (fun ls hl => ?_)
          refine lv_goto (tgt := 35) C.1 C.2.1 dX1_copyFrom_71 (by decide) ?_
          exact ih35 _ _ _ _ _ h w (show lv_has ls 3 [(0, .ref (B + th)), (1, .ref (B + a1)), (2, .int (v2 + 1))] from lv_sub hl [1, 2, 0] rfl)
  have h := h0
  unfold F_X1_copyFrom at h
  refine lv_aload_n C.1 C.2.1 dX1_copyFrom_0 rfl (lv_at hl 1 rfl) ?_
  refine g_getR C w fl_X1_9 sa1 ka1 (by decide) kt_1_0 (fun _ _ _ => rfl) dX1_copyFrom_1 (fun s1 k1 => ?_)
  refine lv_aload_n C.1 C.2.1 dX1_copyFrom_4 rfl (lv_at hl 0 rfl) ?_
  refine g_getR C w fl_X1_9 sth kth (by decide) kt_1_0 (fun _ _ _ => rfl) dX1_copyFrom_5 (fun s2 k2 => ?_)
  obtain ⟨o3, ho3, h⟩ := g_bd h
  refine g_callN (n := 2) (As := [.ref (B + (rfG a1 0)), .ref (B + (rfG th 0))]) (rest := []) C w (m_X7_copyRow s1 k1 s2 k2 ho3) nl_X1_61 iy_X7_copyRow in_X7 cy_X7_copyRow ⟨by decide +kernel, by decide +kernel, by decide +kernel⟩ rfl ⟨Nat.le_of_ble_eq_true rfl, Nat.le_of_ble_eq_true rfl⟩ rfl (Nat.le_of_ble_eq_true rfl) hl.1 ⟨Nat.le_of_ble_eq_true rfl, Nat.le_of_ble_eq_true rfl⟩ dX1_copyFrom_8 (fun H locs w => ?_)
  refine lv_aload_n C.1 C.2.1 dX1_copyFrom_11 rfl (lv_at hl 1 rfl) ?_
  refine g_getR C w fl_X1_15 sa1 ka1 (by decide) kt_1_1 (fun _ _ _ => rfl) dX1_copyFrom_12 (fun s4 k4 => ?_)
  refine lv_aload_n C.1 C.2.1 dX1_copyFrom_15 rfl (lv_at hl 0 rfl) ?_
  refine g_getR C w fl_X1_15 sth kth (by decide) kt_1_1 (fun _ _ _ => rfl) dX1_copyFrom_16 (fun s5 k5 => ?_)
  obtain ⟨o6, ho6, h⟩ := g_bd h
  refine g_callN (n := 2) (As := [.ref (B + (rfG a1 1)), .ref (B + (rfG th 1))]) (rest := []) C w (m_X7_copyRow s4 k4 s5 k5 ho6) nl_X1_61 iy_X7_copyRow in_X7 cy_X7_copyRow ⟨by decide +kernel, by decide +kernel, by decide +kernel⟩ rfl ⟨Nat.le_of_ble_eq_true rfl, Nat.le_of_ble_eq_true rfl⟩ rfl (Nat.le_of_ble_eq_true rfl) hl.1 ⟨Nat.le_of_ble_eq_true rfl, Nat.le_of_ble_eq_true rfl⟩ dX1_copyFrom_19 (fun H locs w => ?_)
  refine lv_aload_n C.1 C.2.1 dX1_copyFrom_22 rfl (lv_at hl 1 rfl) ?_
  refine g_getR C w fl_X1_18 sa1 ka1 (by decide) kt_1_2 (fun _ _ _ => rfl) dX1_copyFrom_23 (fun s7 k7 => ?_)
  refine lv_aload_n C.1 C.2.1 dX1_copyFrom_26 rfl (lv_at hl 0 rfl) ?_
  refine g_getR C w fl_X1_18 sth kth (by decide) kt_1_2 (fun _ _ _ => rfl) dX1_copyFrom_27 (fun s8 k8 => ?_)
  obtain ⟨o9, ho9, h⟩ := g_bd h
  refine g_callN (n := 2) (As := [.ref (B + (rfG a1 2)), .ref (B + (rfG th 2))]) (rest := []) C w (m_X7_copyRow s7 k7 s8 k8 ho9) nl_X1_61 iy_X7_copyRow in_X7 cy_X7_copyRow ⟨by decide +kernel, by decide +kernel, by decide +kernel⟩ rfl ⟨Nat.le_of_ble_eq_true rfl, Nat.le_of_ble_eq_true rfl⟩ rfl (Nat.le_of_ble_eq_true rfl) hl.1 ⟨Nat.le_of_ble_eq_true rfl, Nat.le_of_ble_eq_true rfl⟩ dX1_copyFrom_30 (fun H locs w => ?_)
  refine lv_iconst (v := 0) C.1 C.2.1 dX1_copyFrom_33 (by decide) ?_
  refine lv_istore_n (lv' := [(2, .int 0), (0, .ref (B + th)), (1, .ref (B + a1))]) C.1 C.2.1 dX1_copyFrom_34 rfl hl (by decide) rfl (fun ls hl => ?_)
  exact B_35 _ _ _ _ _ _ h w (show lv_has ls 3 [(0, .ref (B + th)), (1, .ref (B + a1)), (2, .int 0)] from lv_sub hl [1, 2, 0] rfl)

set_option maxHeartbeats 4000000 in
set_option maxRecDepth 100000 in
theorem m_X3_ask {l : Launch} {D : va_G} {cA : Nat → ClassId} {B : Nat} {S : Nat → Prop} {σ : GS} {th : Nat} {a1 : Int32} {o : GS} (sth : S th) (kth : kdG th = 3) (h0 : F_X3_ask σ th a1 = some o) : MF l yX3_ask cX3_ask 2 none 2 45 D cA B S [.ref (B + th), .int a1] σ o none := by
  refine MF.of (by decide +kernel) (Nat.le_of_ble_eq_true rfl) ?_
  intro p e s m args below meth c C hr w ls hl
  have hl : lv_has ls 2 [(0, .ref (B + th)), (1, .int a1)] := hl
  have h := h0
  unfold F_X3_ask at h
  refine lv_aload_n C.1 C.2.1 dX3_ask_0 rfl (lv_at hl 0 rfl) ?_
  refine lv_iload_n C.1 C.2.1 dX3_ask_1 rfl (lv_at hl 1 rfl) ?_
  obtain ⟨o1, ho1, h⟩ := g_bd h
  refine g_callV (n := 1) (As := [.int a1]) (rest := []) C w (m_X3_canAsk sth kth ho1) (cl_3).1 sth kth (by decide) ml_X3_102 iy_X3_canAsk sy_X3_canAsk in_X3 cy_X3_canAsk ⟨rfl, by decide +kernel, by decide +kernel, by decide +kernel⟩ rfl ⟨Nat.le_of_ble_eq_true rfl, Nat.le_of_ble_eq_true rfl⟩ rfl (Nat.le_of_ble_eq_true rfl) hl.1 ⟨Nat.le_of_ble_eq_true rfl, Nat.le_of_ble_eq_true rfl⟩ dX3_ask_2 (fun H locs w => ?_)
  refine lv_if_eq (tgt := 40) C.1 C.2.1 dX3_ask_5 (by decide) (fun hc => ?_) (fun hc => ?_)
  · have h := (if_pos hc).symm.trans h
    exact g_vretV C w hr dX3_ask_40 h
  · have h := (if_neg hc).symm.trans h
    refine lv_aload_n C.1 C.2.1 dX3_ask_8 rfl (lv_at hl 0 rfl) ?_
    refine lv_aload_n C.1 C.2.1 dX3_ask_9 rfl (lv_at hl 0 rfl) ?_
    obtain ⟨o2, ho2, h⟩ := g_bd h
    refine g_callV (n := 0) (As := []) (rest := [.ref (B + th)]) C w (m_X3_choose sth kth ho2) (cl_3).1 sth kth (by decide) ml_X3_106 iy_X3_choose sy_X3_choose in_X3 cy_X3_choose ⟨rfl, by decide +kernel, by decide +kernel, by decide +kernel⟩ rfl ⟨Nat.le_of_ble_eq_true rfl, Nat.le_of_ble_eq_true rfl⟩ rfl (Nat.le_of_ble_eq_true rfl) hl.1 ⟨Nat.le_of_ble_eq_true rfl, Nat.le_of_ble_eq_true rfl⟩ dX3_ask_10 (fun H locs w => ?_)
    refine g_putI C w fw_X3_53 sth kth (by decide) (fun _ _ _ => rfl) rfl rfl dX3_ask_13 (fun H locs w => ?_)
    refine lv_aload_n C.1 C.2.1 dX3_ask_16 rfl (lv_at hl 0 rfl) ?_
    refine lv_aload_n C.1 C.2.1 dX3_ask_17 rfl (lv_at hl 0 rfl) ?_
    refine g_getR C w fl_X3_25 sth kth (by decide) kt_3_1 (fun _ _ _ => rfl) dX3_ask_18 (fun s4 k4 => ?_)
    refine lv_aload_n C.1 C.2.1 dX3_ask_21 rfl (lv_at hl 0 rfl) ?_
    refine g_getI C w fl_X3_50 sth kth (by decide) (fun _ _ _ => rfl) dX3_ask_22 ?_
    refine lv_aload_n C.1 C.2.1 dX3_ask_25 rfl (lv_at hl 0 rfl) ?_
    refine g_getI C w fl_X3_53 sth kth (by decide) (fun _ _ _ => rfl) dX3_ask_26 ?_
    obtain ⟨o5, ho5, h⟩ := g_bd h
    refine g_callV (n := 2) (As := [.int (gI (sI σ th 10 o2) th 9), .int (gI (sI σ th 10 o2) th 10)]) (rest := [.ref (B + th)]) C w (m_X6_sizeOfSegment s4 k4 ho5) (cl_6).1 s4 k4 (by decide) ml_X3_109 iy_X6_sizeOfSegment sy_X6_sizeOfSegment in_X6 cy_X6_sizeOfSegment ⟨rfl, by decide +kernel, by decide +kernel, by decide +kernel⟩ rfl ⟨Nat.le_of_ble_eq_true rfl, Nat.le_of_ble_eq_true rfl⟩ rfl (Nat.le_of_ble_eq_true rfl) hl.1 ⟨Nat.le_of_ble_eq_true rfl, Nat.le_of_ble_eq_true rfl⟩ dX3_ask_29 (fun H locs w => ?_)
    refine g_putI C w fw_X3_56 sth kth (by decide) (fun _ _ _ => rfl) rfl rfl dX3_ask_32 (fun H locs w => ?_)
    refine lv_aload_n C.1 C.2.1 dX3_ask_35 rfl (lv_at hl 0 rfl) ?_
    refine lv_iload_n C.1 C.2.1 dX3_ask_36 rfl (lv_at hl 1 rfl) ?_
    refine g_putI C w fw_X3_59 sth kth (by decide) (fun _ _ _ => rfl) rfl rfl dX3_ask_37 (fun H locs w => ?_)
    exact g_vretV C w hr dX3_ask_40 h

set_option maxHeartbeats 4000000 in
set_option maxRecDepth 100000 in
theorem m_X4_readName {l : Launch} {D : va_G} {cA : Nat → ClassId} {B : Nat} {S : Nat → Prop} {σ : GS} {th : Nat} {o : GS × Int64} (sth : S th) (kth : kdG th = 4) (h0 : F_X4_readName σ th = some o) : MF l yX4_readName cX4_readName 3 (some .long) 2 42 D cA B S [.ref (B + th)] σ o.1 (some (.long o.2)) := by
  refine MF.of (by decide +kernel) (Nat.le_of_ble_eq_true rfl) ?_
  intro p e s m args below meth c C hr w ls hl
  have hl : lv_has ls 3 [(0, .ref (B + th))] := hl
  have B_53 : ∀ (n53 : Nat) (σ : GS) (v1 : Int32) (v2 : Int32) (H : Heap) (locs : List Loc) (ls : Array Slot), L_X4_readName_53 th n53 σ v1 v2 = some o → WS D cA B S σ s H locs → lv_has ls 3 [(0, .ref (B + th)), (1, .int v1), (2, .int v2)] → W p l e (rmF 2 42) s m args below meth c H locs 0 0 (MQ below (QF D cA B S o.1 (some (.long o.2))) args s 0 0 (AB B S)) (F0 m 53 ls []) := by
    intro n53
    induction n53 with
    | zero => intro σ v1 v2 H locs ls h; exact nomatch (show (none : Option (GS × Int64)) = some o from h)
    | succ n53 ih53 =>
      intro σ v1 v2 H locs ls h  w hl
      unfold L_X4_readName_53 at h
      refine lv_iload_n C.1 C.2.1 dX4_readName_53 rfl (lv_at hl 2 rfl) ?_
      refine lv_aload_n C.1 C.2.1 dX4_readName_54 rfl (lv_at hl 0 rfl) ?_
      refine g_getI C w fl_X4_35 sth kth (by decide) (fun _ _ _ => rfl) dX4_readName_55 ?_
      refine lv_icmp_ge (tgt := 87) C.1 C.2.1 dX4_readName_58 (by decide) (fun hc => ?_) (fun hc => ?_)
      · have h := (if_pos hc).symm.trans h
        refine lv_iload_n C.1 C.2.1 dX4_readName_87 rfl (lv_at hl 1 rfl) ?_
        refine lv_if_eq (tgt := 98) C.1 C.2.1 dX4_readName_88 (by decide) (fun hc => ?_) (fun hc => ?_)
        · have h := (if_pos hc).symm.trans h
          refine lv_lconst (v := 0) C.1 C.2.1 dX4_readName_98 (by decide) ?_
          exact g_lretB C w hr dX4_readName_99 h
        · have h := (if_neg hc).symm.trans h
          refine lv_aload_n C.1 C.2.1 dX4_readName_91 rfl (lv_at hl 0 rfl) ?_
          refine g_getL C w fl_X4_63 sth kth (by decide) (fun _ _ _ => rfl) dX4_readName_92 ?_
          refine lv_goto (tgt := 99) C.1 C.2.1 dX4_readName_95 (by decide) ?_
          exact g_lretB C w hr dX4_readName_99 h
      · have h := (if_neg hc).symm.trans h
        refine lv_iload_n C.1 C.2.1 dX4_readName_61 rfl (lv_at hl 1 rfl) ?_
        refine lv_if_eq (tgt := 79) C.1 C.2.1 dX4_readName_62 (by decide) (fun hc => ?_) (fun hc => ?_)
        · have h := (if_pos hc).symm.trans h
          refine lv_iconst (v := 0) C.1 C.2.1 dX4_readName_79 (by decide) ?_
          refine lv_istore_n (lv' := [(1, .int 0), (0, .ref (B + th)), (2, .int v2)]) C.1 C.2.1 dX4_readName_80 rfl hl (by decide) rfl (fun ls hl => ?_)
          refine lv_iinc (k := 2) (v := v2 + 1) (lv' := [(2, .int (v2 + 1)), (1, .int 0), (0, .ref (B + th))]) C.1 C.2.1 dX4_readName_81 hl rfl rfl (by decide) rfl (fun ls hl => ?_)
          refine lv_goto (tgt := 53) C.1 C.2.1 dX4_readName_84 (by decide) ?_
          exact ih53 _ _ _ _ _ _ h w (show lv_has ls 3 [(0, .ref (B + th)), (1, .int 0), (2, .int (v2 + 1))] from lv_sub hl [2, 1, 0] rfl)
        · have h := (if_neg hc).symm.trans h
          refine lv_aload_n C.1 C.2.1 dX4_readName_65 rfl (lv_at hl 0 rfl) ?_
          refine lv_iload_n C.1 C.2.1 dX4_readName_66 rfl (lv_at hl 2 rfl) ?_
          obtain ⟨o6, ho6, h⟩ := g_bd h
          refine g_callV (n := 1) (As := [.int v2]) (rest := []) C w (m_X4_byteAt sth kth ho6) (cl_4).1 sth kth (by decide) ml_X4_59 iy_X4_byteAt sy_X4_byteAt in_X4 cy_X4_byteAt ⟨rfl, by decide +kernel, by decide +kernel, by decide +kernel⟩ rfl ⟨Nat.le_of_ble_eq_true rfl, Nat.le_of_ble_eq_true rfl⟩ rfl (Nat.le_of_ble_eq_true rfl) hl.1 ⟨Nat.le_of_ble_eq_true rfl, Nat.le_of_ble_eq_true rfl⟩ dX4_readName_67 (fun H locs w => ?_)
          refine lv_bipush (v := 32) C.1 C.2.1 dX4_readName_70 (by decide) ?_
          refine lv_icmp_ne (tgt := 79) C.1 C.2.1 dX4_readName_72 (by decide) (fun hc => ?_) (fun hc => ?_)
          · have h := (if_neg hc).symm.trans h
            refine lv_iconst (v := 0) C.1 C.2.1 dX4_readName_79 (by decide) ?_
            refine lv_istore_n (lv' := [(1, .int 0), (0, .ref (B + th)), (2, .int v2)]) C.1 C.2.1 dX4_readName_80 rfl hl (by decide) rfl (fun ls hl => ?_)
            refine lv_iinc (k := 2) (v := v2 + 1) (lv' := [(2, .int (v2 + 1)), (1, .int 0), (0, .ref (B + th))]) C.1 C.2.1 dX4_readName_81 hl rfl rfl (by decide) rfl (fun ls hl => ?_)
            refine lv_goto (tgt := 53) C.1 C.2.1 dX4_readName_84 (by decide) ?_
            exact ih53 _ _ _ _ _ _ h w (show lv_has ls 3 [(0, .ref (B + th)), (1, .int 0), (2, .int (v2 + 1))] from lv_sub hl [2, 1, 0] rfl)
          · have h := (if_pos hc).symm.trans h
            refine lv_iconst (v := 1) C.1 C.2.1 dX4_readName_75 (by decide) ?_
            refine lv_goto (tgt := 80) C.1 C.2.1 dX4_readName_76 (by decide) ?_
            refine lv_istore_n (lv' := [(1, .int 1), (0, .ref (B + th)), (2, .int v2)]) C.1 C.2.1 dX4_readName_80 rfl hl (by decide) rfl (fun ls hl => ?_)
            refine lv_iinc (k := 2) (v := v2 + 1) (lv' := [(2, .int (v2 + 1)), (1, .int 1), (0, .ref (B + th))]) C.1 C.2.1 dX4_readName_81 hl rfl rfl (by decide) rfl (fun ls hl => ?_)
            refine lv_goto (tgt := 53) C.1 C.2.1 dX4_readName_84 (by decide) ?_
            exact ih53 _ _ _ _ _ _ h w (show lv_has ls 3 [(0, .ref (B + th)), (1, .int 1), (2, .int (v2 + 1))] from lv_sub hl [2, 1, 0] rfl)
  have h := h0
  unfold F_X4_readName at h
  refine lv_aload_n C.1 C.2.1 dX4_readName_0 rfl (lv_at hl 0 rfl) ?_
  refine lv_iconst (v := 0) C.1 C.2.1 dX4_readName_1 (by decide) ?_
  refine g_putI C w fw_X4_32 sth kth (by decide) (fun _ _ _ => rfl) rfl rfl dX4_readName_2 (fun H locs w => ?_)
  refine lv_aload_n C.1 C.2.1 dX4_readName_5 rfl (lv_at hl 0 rfl) ?_
  refine lv_aload_n C.1 C.2.1 dX4_readName_6 rfl (lv_at hl 0 rfl) ?_
  refine g_getI C w fl_X4_26 sth kth (by decide) (fun _ _ _ => rfl) dX4_readName_7 ?_
  refine g_putI C w fw_X4_35 sth kth (by decide) (fun _ _ _ => rfl) rfl rfl dX4_readName_10 (fun H locs w => ?_)
  refine lv_aload_n C.1 C.2.1 dX4_readName_13 rfl (lv_at hl 0 rfl) ?_
  refine lv_iconst (v := 0) C.1 C.2.1 dX4_readName_14 (by decide) ?_
  refine g_putI C w fw_X4_26 sth kth (by decide) (fun _ _ _ => rfl) rfl rfl dX4_readName_15 (fun H locs w => ?_)
  refine lv_aload_n C.1 C.2.1 dX4_readName_18 rfl (lv_at hl 0 rfl) ?_
  refine lv_iconst (v := 0) C.1 C.2.1 dX4_readName_19 (by decide) ?_
  refine g_putI C w fw_X4_38 sth kth (by decide) (fun _ _ _ => rfl) rfl rfl dX4_readName_20 (fun H locs w => ?_)
  refine lv_aload_n C.1 C.2.1 dX4_readName_23 rfl (lv_at hl 0 rfl) ?_
  obtain ⟨o5, ho5, h⟩ := g_bd h
  refine g_callV (n := 0) (As := []) (rest := []) C w (m_X4_readToken sth kth ho5) (cl_4).1 sth kth (by decide) ml_X4_41 iy_X4_readToken sy_X4_readToken in_X4 cy_X4_readToken ⟨rfl, by decide +kernel, by decide +kernel, by decide +kernel⟩ rfl ⟨Nat.le_of_ble_eq_true rfl, Nat.le_of_ble_eq_true rfl⟩ rfl (Nat.le_of_ble_eq_true rfl) hl.1 ⟨Nat.le_of_ble_eq_true rfl, Nat.le_of_ble_eq_true rfl⟩ dX4_readName_24 (fun H locs w => ?_)
  refine lv_aload_n C.1 C.2.1 dX4_readName_27 rfl (lv_at hl 0 rfl) ?_
  refine g_getI C w fl_X4_47 sth kth (by decide) (fun _ _ _ => rfl) dX4_readName_28 ?_
  refine lv_iconst (v := 1) C.1 C.2.1 dX4_readName_31 (by decide) ?_
  refine lv_icmp_ne (tgt := 46) C.1 C.2.1 dX4_readName_32 (by decide) (fun hc => ?_) (fun hc => ?_)
  · have h := (if_neg hc).symm.trans h
    refine lv_iconst (v := 0) C.1 C.2.1 dX4_readName_46 (by decide) ?_
    refine lv_istore_n (lv' := [(1, .int 0), (0, .ref (B + th))]) C.1 C.2.1 dX4_readName_47 rfl hl (by decide) rfl (fun ls hl => ?_)
    refine lv_aload_n C.1 C.2.1 dX4_readName_48 rfl (lv_at hl 1 rfl) ?_
    refine g_getI C w fl_X4_38 sth kth (by decide) (fun _ _ _ => rfl) dX4_readName_49 ?_
    refine lv_istore_n (lv' := [(2, .int (gI o5 th 8)), (1, .int 0), (0, .ref (B + th))]) C.1 C.2.1 dX4_readName_52 rfl hl (by decide) rfl (fun ls hl => ?_)
    exact B_53 _ _ _ _ _ _ _ h w (show lv_has ls 3 [(0, .ref (B + th)), (1, .int 0), (2, .int (gI o5 th 8))] from lv_sub hl [2, 1, 0] rfl)
  · have h := (if_pos hc).symm.trans h
    refine lv_aload_n C.1 C.2.1 dX4_readName_35 rfl (lv_at hl 0 rfl) ?_
    refine g_getI C w fl_X4_56 sth kth (by decide) (fun _ _ _ => rfl) dX4_readName_36 ?_
    refine lv_if_ne (tgt := 46) C.1 C.2.1 dX4_readName_39 (by decide) (fun hc => ?_) (fun hc => ?_)
    · have h := (if_neg hc).symm.trans h
      refine lv_iconst (v := 0) C.1 C.2.1 dX4_readName_46 (by decide) ?_
      refine lv_istore_n (lv' := [(1, .int 0), (0, .ref (B + th))]) C.1 C.2.1 dX4_readName_47 rfl hl (by decide) rfl (fun ls hl => ?_)
      refine lv_aload_n C.1 C.2.1 dX4_readName_48 rfl (lv_at hl 1 rfl) ?_
      refine g_getI C w fl_X4_38 sth kth (by decide) (fun _ _ _ => rfl) dX4_readName_49 ?_
      refine lv_istore_n (lv' := [(2, .int (gI o5 th 8)), (1, .int 0), (0, .ref (B + th))]) C.1 C.2.1 dX4_readName_52 rfl hl (by decide) rfl (fun ls hl => ?_)
      exact B_53 _ _ _ _ _ _ _ h w (show lv_has ls 3 [(0, .ref (B + th)), (1, .int 0), (2, .int (gI o5 th 8))] from lv_sub hl [2, 1, 0] rfl)
    · have h := (if_pos hc).symm.trans h
      refine lv_iconst (v := 1) C.1 C.2.1 dX4_readName_42 (by decide) ?_
      refine lv_goto (tgt := 47) C.1 C.2.1 dX4_readName_43 (by decide) ?_
      refine lv_istore_n (lv' := [(1, .int 1), (0, .ref (B + th))]) C.1 C.2.1 dX4_readName_47 rfl hl (by decide) rfl (fun ls hl => ?_)
      refine lv_aload_n C.1 C.2.1 dX4_readName_48 rfl (lv_at hl 1 rfl) ?_
      refine g_getI C w fl_X4_38 sth kth (by decide) (fun _ _ _ => rfl) dX4_readName_49 ?_
      refine lv_istore_n (lv' := [(2, .int (gI o5 th 8)), (1, .int 1), (0, .ref (B + th))]) C.1 C.2.1 dX4_readName_52 rfl hl (by decide) rfl (fun ls hl => ?_)
      exact B_53 _ _ _ _ _ _ _ h w (show lv_has ls 3 [(0, .ref (B + th)), (1, .int 1), (2, .int (gI o5 th 8))] from lv_sub hl [2, 1, 0] rfl)

set_option maxHeartbeats 4000000 in
set_option maxRecDepth 100000 in
theorem m_X4_readSizes {l : Launch} {D : va_G} {cA : Nat → ClassId} {B : Nat} {S : Nat → Prop} {σ : GS} {th : Nat} {a1 : Nat} {o : GS} (sth : S th) (kth : kdG th = 4) (sa1 : S a1) (ka1 : kdG a1 = 6) (h0 : F_X4_readSizes σ th a1 = some o) : MF l yX4_readSizes cX4_readSizes 4 none 2 43 D cA B S [.ref (B + th), .ref (B + a1)] σ o none := by
  refine MF.of (by decide +kernel) (Nat.le_of_ble_eq_true rfl) ?_
  intro p e s m args below meth c C hr w ls hl
  have hl : lv_has ls 4 [(0, .ref (B + th)), (1, .ref (B + a1))] := hl
  have B_4 : ∀ (n4 : Nat) (σ : GS) (v2 : Int32) (v3 : Int32) (H : Heap) (locs : List Loc) (ls : Array Slot), L_X4_readSizes_4 th a1 n4 σ v2 v3 = some o → WS D cA B S σ s H locs → lv_has ls 4 [(0, .ref (B + th)), (1, .ref (B + a1)), (2, .int v2), (3, .int v3)] → W p l e (rmF 2 43) s m args below meth c H locs 0 0 (MQ below (QF D cA B S o none) args s 0 0 (AB B S)) (F0 m 4 ls []) := by
    intro n4
    induction n4 with
    | zero => intro σ v2 v3 H locs ls h; exact nomatch (show (none : Option (GS)) = some o from h)
    | succ n4 ih4 =>
      have B_65 : ∀ (σ : GS) (v3 : Int32) (H : Heap) (locs : List Loc) (ls : Array Slot), J_X4_readSizes_65 (L_X4_readSizes_4 th a1 n4) th a1 σ v3 = some o → WS D cA B S σ s H locs → lv_has ls 4 [(0, .ref (B + th)), (1, .ref (B + a1)), (3, .int v3)] → W p l e (rmF 2 43) s m args below meth c H locs 0 0 (MQ below (QF D cA B S o none) args s 0 0 (AB B S)) (F0 m 65 ls []) := by
        intro σ v3 H locs ls h  w hl
        unfold J_X4_readSizes_65 at h
        refine lv_aload_n C.1 C.2.1 dX4_readSizes_65 rfl (lv_at hl 1 rfl) ?_
        refine g_getR C w fl_X4_180 sa1 ka1 (by decide) kt_6_0 (fun _ _ _ => rfl) dX4_readSizes_66 (fun s5 k5 => ?_)
        refine lv_iload_n C.1 C.2.1 dX4_readSizes_69 rfl (lv_at hl 2 rfl) ?_
        refine lv_aload_n C.1 C.2.1 dX4_readSizes_70 rfl (lv_at hl 0 rfl) ?_
        refine g_getI C w fl_X4_131 sth kth (by decide) (fun _ _ _ => rfl) dX4_readSizes_71 ?_
        obtain ⟨hb, h⟩ := g_ob h
        refine g_iast C w s5 k5 hb dX4_readSizes_74 (fun H locs w => ?_)
        refine lv_aload_n C.1 C.2.1 dX4_readSizes_75 rfl (lv_at hl 1 rfl) ?_
        refine lv_iload_n C.1 C.2.1 dX4_readSizes_76 rfl (lv_at hl 2 rfl) ?_
        refine lv_iconst (v := 1) C.1 C.2.1 dX4_readSizes_77 (by decide) ?_
        refine lv_iadd C.1 C.2.1 dX4_readSizes_78 ?_
        refine g_putI C w fw_X4_184 sa1 ka1 (by decide) (fun _ _ _ => rfl) rfl rfl dX4_readSizes_79 (fun H locs w => ?_)
        refine lv_aload_n C.1 C.2.1 dX4_readSizes_82 rfl (lv_at hl 0 rfl) ?_
        refine g_getI C w fl_X4_131 sth kth (by decide) (fun _ _ _ => rfl) dX4_readSizes_83 ?_
        refine lv_istore_n (lv' := [(2, .int (gI (sI (sI σ (rfG a1 0) v3.toNatClampNeg (gI σ th 9)) a1 6 (v3 + 1)) th 9)), (0, .ref (B + th)), (1, .ref (B + a1)), (3, .int v3)]) C.1 C.2.1 dX4_readSizes_86 rfl hl (by decide) rfl (fun ls hl => ?_)
        refine lv_aload_n C.1 C.2.1 dX4_readSizes_87 rfl (lv_at hl 1 rfl) ?_
        obtain ⟨o8, ho8, h⟩ := g_bd h
        refine g_callV (n := 0) (As := []) (rest := []) C w (m_X4_readToken sth kth ho8) (cl_4).1 sth kth (by decide) ml_X4_41 iy_X4_readToken sy_X4_readToken in_X4 cy_X4_readToken ⟨rfl, by decide +kernel, by decide +kernel, by decide +kernel⟩ rfl ⟨Nat.le_of_ble_eq_true rfl, Nat.le_of_ble_eq_true rfl⟩ rfl (Nat.le_of_ble_eq_true rfl) hl.1 ⟨Nat.le_of_ble_eq_true rfl, Nat.le_of_ble_eq_true rfl⟩ dX4_readSizes_88 (fun H locs w => ?_)
        refine lv_iinc (k := 3) (v := v3 + 1) (lv' := [(3, .int (v3 + 1)), (2, .int (gI (sI (sI σ (rfG a1 0) v3.toNatClampNeg (gI σ th 9)) a1 6 (v3 + 1)) th 9)), (0, .ref (B + th)), (1, .ref (B + a1))]) C.1 C.2.1 dX4_readSizes_91 hl rfl rfl (by decide) rfl (fun ls hl => ?_)
        refine lv_goto (tgt := 4) C.1 C.2.1 dX4_readSizes_94 (by decide) ?_
        exact ih4 _ _ _ _ _ _ h w (show lv_has ls 4 [(0, .ref (B + th)), (1, .ref (B + a1)), (2, .int (gI (sI (sI σ (rfG a1 0) v3.toNatClampNeg (gI σ th 9)) a1 6 (v3 + 1)) th 9)), (3, .int (v3 + 1))] from lv_sub hl [2, 3, 1, 0] rfl)
      have B_28 : ∀ (σ : GS) (v2 : Int32) (v3 : Int32) (H : Heap) (locs : List Loc) (ls : Array Slot), J_X4_readSizes_28 (L_X4_readSizes_4 th a1 n4) th a1 σ v2 v3 = some o → WS D cA B S σ s H locs → lv_has ls 4 [(0, .ref (B + th)), (1, .ref (B + a1)), (2, .int v2), (3, .int v3)] → W p l e (rmF 2 43) s m args below meth c H locs 0 0 (MQ below (QF D cA B S o none) args s 0 0 (AB B S)) (F0 m 28 ls []) := by
        intro σ v2 v3 H locs ls h  w hl
        unfold J_X4_readSizes_28 at h
        refine lv_aload_n C.1 C.2.1 dX4_readSizes_28 rfl (lv_at hl 0 rfl) ?_
        refine lv_iconst (v := 1) C.1 C.2.1 dX4_readSizes_29 (by decide) ?_
        refine lv_sipush (v := 9999) C.1 C.2.1 dX4_readSizes_30 (by decide) ?_
        obtain ⟨o1, ho1, h⟩ := g_bd h
        refine g_callV (n := 2) (As := [.int 1, .int 9999]) (rest := []) C w (m_X4_testNumber sth kth ho1) (cl_4).1 sth kth (by decide) ml_X4_128 iy_X4_testNumber sy_X4_testNumber in_X4 cy_X4_testNumber ⟨rfl, by decide +kernel, by decide +kernel, by decide +kernel⟩ rfl ⟨Nat.le_of_ble_eq_true rfl, Nat.le_of_ble_eq_true rfl⟩ rfl (Nat.le_of_ble_eq_true rfl) hl.1 ⟨Nat.le_of_ble_eq_true rfl, Nat.le_of_ble_eq_true rfl⟩ dX4_readSizes_33 (fun H locs w => ?_)
        refine lv_iload_n C.1 C.2.1 dX4_readSizes_36 rfl (lv_at hl 3 rfl) ?_
        refine lv_aload_n C.1 C.2.1 dX4_readSizes_37 rfl (lv_at hl 1 rfl) ?_
        refine g_getR C w fl_X4_180 sa1 ka1 (by decide) kt_6_0 (fun _ _ _ => rfl) dX4_readSizes_38 (fun s2 k2 => ?_)
        refine g_alen C w s2 k2 (by decide) (by decide) dX4_readSizes_41 ?_
        refine lv_icmp_lt (tgt := 51) C.1 C.2.1 dX4_readSizes_42 (by decide) (fun hc => ?_) (fun hc => ?_)
        · have h := (if_pos hc).symm.trans h
          refine lv_aload_n C.1 C.2.1 dX4_readSizes_51 rfl (lv_at hl 0 rfl) ?_
          refine g_getI C w fl_X4_131 sth kth (by decide) (fun _ _ _ => rfl) dX4_readSizes_52 ?_
          refine lv_iload_n C.1 C.2.1 dX4_readSizes_55 rfl (lv_at hl 2 rfl) ?_
          refine lv_icmp_gt (tgt := 65) C.1 C.2.1 dX4_readSizes_56 (by decide) (fun hc => ?_) (fun hc => ?_)
          · have h := (if_pos hc).symm.trans h
            exact B_65 _ _ _ _ _ h w (show lv_has ls 4 [(0, .ref (B + th)), (1, .ref (B + a1)), (3, .int v3)] from lv_sub hl [0, 1, 3] rfl)
          · have h := (if_neg hc).symm.trans h
            refine lv_aload_n C.1 C.2.1 dX4_readSizes_59 rfl (lv_at hl 0 rfl) ?_
            refine lv_bipush (v := 6) C.1 C.2.1 dX4_readSizes_60 (by decide) ?_
            obtain ⟨o3, ho3, h⟩ := g_bd h
            refine g_callV (n := 1) (As := [.int 6]) (rest := []) C w (m_X4_fail sth kth ho3) (cl_4).1 sth kth (by decide) ml_X4_114 iy_X4_fail sy_X4_fail in_X4 cy_X4_fail ⟨rfl, by decide +kernel, by decide +kernel, by decide +kernel⟩ rfl ⟨Nat.le_of_ble_eq_true rfl, Nat.le_of_ble_eq_true rfl⟩ rfl (Nat.le_of_ble_eq_true rfl) hl.1 ⟨Nat.le_of_ble_eq_true rfl, Nat.le_of_ble_eq_true rfl⟩ dX4_readSizes_62 (fun H locs w => ?_)
            exact B_65 _ _ _ _ _ h w (show lv_has ls 4 [(0, .ref (B + th)), (1, .ref (B + a1)), (3, .int v3)] from lv_sub hl [0, 1, 3] rfl)
        · have h := (if_neg hc).symm.trans h
          refine lv_aload_n C.1 C.2.1 dX4_readSizes_45 rfl (lv_at hl 0 rfl) ?_
          refine lv_iconst (v := 5) C.1 C.2.1 dX4_readSizes_46 (by decide) ?_
          obtain ⟨o4, ho4, h⟩ := g_bd h
          refine g_callV (n := 1) (As := [.int 5]) (rest := []) C w (m_X4_fail sth kth ho4) (cl_4).1 sth kth (by decide) ml_X4_114 iy_X4_fail sy_X4_fail in_X4 cy_X4_fail ⟨rfl, by decide +kernel, by decide +kernel, by decide +kernel⟩ rfl ⟨Nat.le_of_ble_eq_true rfl, Nat.le_of_ble_eq_true rfl⟩ rfl (Nat.le_of_ble_eq_true rfl) hl.1 ⟨Nat.le_of_ble_eq_true rfl, Nat.le_of_ble_eq_true rfl⟩ dX4_readSizes_47 (fun H locs w => ?_)
          exact g_vretV C w hr dX4_readSizes_50 h
      intro σ v2 v3 H locs ls h  w hl
      unfold L_X4_readSizes_4 at h
      refine lv_iload_n C.1 C.2.1 dX4_readSizes_4 rfl (lv_at hl 3 rfl) ?_
      refine lv_iconst (v := 4) C.1 C.2.1 dX4_readSizes_5 (by decide) ?_
      refine lv_icmp_gt (tgt := 97) C.1 C.2.1 dX4_readSizes_6 (by decide) (fun hc => ?_) (fun hc => ?_)
      · have h := (if_pos hc).symm.trans h
        exact g_vretV C w hr dX4_readSizes_97 h
      · have h := (if_neg hc).symm.trans h
        refine lv_aload_n C.1 C.2.1 dX4_readSizes_9 rfl (lv_at hl 0 rfl) ?_
        refine g_getI C w fl_X4_32 sth kth (by decide) (fun _ _ _ => rfl) dX4_readSizes_10 ?_
        refine lv_if_ne (tgt := 97) C.1 C.2.1 dX4_readSizes_13 (by decide) (fun hc => ?_) (fun hc => ?_)
        · have h := (if_neg hc).symm.trans h
          exact g_vretV C w hr dX4_readSizes_97 h
        · have h := (if_pos hc).symm.trans h
          refine lv_iload_n C.1 C.2.1 dX4_readSizes_16 rfl (lv_at hl 3 rfl) ?_
          refine lv_if_eq (tgt := 28) C.1 C.2.1 dX4_readSizes_17 (by decide) (fun hc => ?_) (fun hc => ?_)
          · have h := (if_pos hc).symm.trans h
            exact B_28 _ _ _ _ _ _ h w (show lv_has ls 4 [(0, .ref (B + th)), (1, .ref (B + a1)), (2, .int v2), (3, .int v3)] from lv_sub hl [0, 1, 2, 3] rfl)
          · have h := (if_neg hc).symm.trans h
            refine lv_aload_n C.1 C.2.1 dX4_readSizes_20 rfl (lv_at hl 0 rfl) ?_
            refine g_getI C w fl_X4_47 sth kth (by decide) (fun _ _ _ => rfl) dX4_readSizes_21 ?_
            refine lv_iconst (v := 2) C.1 C.2.1 dX4_readSizes_24 (by decide) ?_
            refine lv_icmp_ne (tgt := 97) C.1 C.2.1 dX4_readSizes_25 (by decide) (fun hc => ?_) (fun hc => ?_)
            · have h := (if_neg hc).symm.trans h
              exact g_vretV C w hr dX4_readSizes_97 h
            · have h := (if_pos hc).symm.trans h
              exact B_28 _ _ _ _ _ _ h w (show lv_has ls 4 [(0, .ref (B + th)), (1, .ref (B + a1)), (2, .int v2), (3, .int v3)] from lv_sub hl [0, 1, 2, 3] rfl)
  have h := h0
  unfold F_X4_readSizes at h
  refine lv_iconst (v := 0) C.1 C.2.1 dX4_readSizes_0 (by decide) ?_
  refine lv_istore_n (lv' := [(2, .int 0), (0, .ref (B + th)), (1, .ref (B + a1))]) C.1 C.2.1 dX4_readSizes_1 rfl hl (by decide) rfl (fun ls hl => ?_)
  refine lv_iconst (v := 0) C.1 C.2.1 dX4_readSizes_2 (by decide) ?_
  refine lv_istore_n (lv' := [(3, .int 0), (2, .int 0), (0, .ref (B + th)), (1, .ref (B + a1))]) C.1 C.2.1 dX4_readSizes_3 rfl hl (by decide) rfl (fun ls hl => ?_)
  exact B_4 _ _ _ _ _ _ _ h w (show lv_has ls 4 [(0, .ref (B + th)), (1, .ref (B + a1)), (2, .int 0), (3, .int 0)] from lv_sub hl [2, 3, 1, 0] rfl)

set_option maxHeartbeats 4000000 in
set_option maxRecDepth 100000 in
theorem m_X4_takeNewName {l : Launch} {D : va_G} {cA : Nat → ClassId} {B : Nat} {S : Nat → Prop} {σ : GS} {th : Nat} {o : GS × Int64} (sth : S th) (kth : kdG th = 4) (h0 : F_X4_takeNewName σ th = some o) : MF l yX4_takeNewName cX4_takeNewName 3 (some .long) 2 42 D cA B S [.ref (B + th)] σ o.1 (some (.long o.2)) := by
  refine MF.of (by decide +kernel) (Nat.le_of_ble_eq_true rfl) ?_
  intro p e s m args below meth c C hr w ls hl
  have hl : lv_has ls 3 [(0, .ref (B + th))] := hl
  have h := h0
  unfold F_X4_takeNewName at h
  refine lv_aload_n C.1 C.2.1 dX4_takeNewName_0 rfl (lv_at hl 0 rfl) ?_
  refine g_getI C w fl_X4_47 sth kth (by decide) (fun _ _ _ => rfl) dX4_takeNewName_1 ?_
  refine lv_iconst (v := 1) C.1 C.2.1 dX4_takeNewName_4 (by decide) ?_
  refine lv_icmp_eq (tgt := 16) C.1 C.2.1 dX4_takeNewName_5 (by decide) (fun hc => ?_) (fun hc => ?_)
  · have h := (if_pos hc).symm.trans h
    refine lv_aload_n C.1 C.2.1 dX4_takeNewName_16 rfl (lv_at hl 0 rfl) ?_
    refine g_getR C w fl_X4_12 sth kth (by decide) kt_4_0 (fun _ _ _ => rfl) dX4_takeNewName_17 (fun s1 k1 => ?_)
    refine lv_aload_n C.1 C.2.1 dX4_takeNewName_20 rfl (lv_at hl 0 rfl) ?_
    refine g_getL C w fl_X4_63 sth kth (by decide) (fun _ _ _ => rfl) dX4_takeNewName_21 ?_
    obtain ⟨o2, ho2, h⟩ := g_bd h
    refine g_callV (n := 1) (As := [.long (gL σ th 10)]) (rest := []) C w (m_X1_indexOfName s1 k1 ho2) (cl_1).1 s1 k1 (by decide) ml_X4_137 iy_X1_indexOfName sy_X1_indexOfName in_X1 cy_X1_indexOfName ⟨rfl, by decide +kernel, by decide +kernel, by decide +kernel⟩ rfl ⟨Nat.le_of_ble_eq_true rfl, Nat.le_of_ble_eq_true rfl⟩ rfl (Nat.le_of_ble_eq_true rfl) hl.1 ⟨Nat.le_of_ble_eq_true rfl, Nat.le_of_ble_eq_true rfl⟩ dX4_takeNewName_24 (fun H locs w => ?_)
    refine lv_iconst (v := (-1)) C.1 C.2.1 dX4_takeNewName_27 (by decide) ?_
    refine lv_icmp_eq (tgt := 36) C.1 C.2.1 dX4_takeNewName_28 (by decide) (fun hc => ?_) (fun hc => ?_)
    · have h := (if_pos hc).symm.trans h
      refine lv_aload_n C.1 C.2.1 dX4_takeNewName_36 rfl (lv_at hl 0 rfl) ?_
      refine g_getL C w fl_X4_63 sth kth (by decide) (fun _ _ _ => rfl) dX4_takeNewName_37 ?_
      refine lv_lstore_n (lv' := [(1, .long (gL σ th 10)), (0, .ref (B + th))]) C.1 C.2.1 dX4_takeNewName_40 rfl hl (by decide) rfl (fun ls hl => ?_)
      refine lv_aload_n C.1 C.2.1 dX4_takeNewName_41 rfl (lv_at hl 1 rfl) ?_
      obtain ⟨o3, ho3, h⟩ := g_bd h
      refine g_callV (n := 0) (As := []) (rest := []) C w (m_X4_readToken sth kth ho3) (cl_4).1 sth kth (by decide) ml_X4_41 iy_X4_readToken sy_X4_readToken in_X4 cy_X4_readToken ⟨rfl, by decide +kernel, by decide +kernel, by decide +kernel⟩ rfl ⟨Nat.le_of_ble_eq_true rfl, Nat.le_of_ble_eq_true rfl⟩ rfl (Nat.le_of_ble_eq_true rfl) hl.1 ⟨Nat.le_of_ble_eq_true rfl, Nat.le_of_ble_eq_true rfl⟩ dX4_takeNewName_42 (fun H locs w => ?_)
      refine lv_lload_n C.1 C.2.1 dX4_takeNewName_45 rfl (lv_at hl 0 rfl) ?_
      exact g_lretB C w hr dX4_takeNewName_46 h
    · have h := (if_neg hc).symm.trans h
      refine lv_aload_n C.1 C.2.1 dX4_takeNewName_31 rfl (lv_at hl 0 rfl) ?_
      refine lv_iconst (v := 2) C.1 C.2.1 dX4_takeNewName_32 (by decide) ?_
      obtain ⟨o4, ho4, h⟩ := g_bd h
      refine g_callV (n := 1) (As := [.int 2]) (rest := []) C w (m_X4_fail sth kth ho4) (cl_4).1 sth kth (by decide) ml_X4_114 iy_X4_fail sy_X4_fail in_X4 cy_X4_fail ⟨rfl, by decide +kernel, by decide +kernel, by decide +kernel⟩ rfl ⟨Nat.le_of_ble_eq_true rfl, Nat.le_of_ble_eq_true rfl⟩ rfl (Nat.le_of_ble_eq_true rfl) hl.1 ⟨Nat.le_of_ble_eq_true rfl, Nat.le_of_ble_eq_true rfl⟩ dX4_takeNewName_33 (fun H locs w => ?_)
      refine lv_aload_n C.1 C.2.1 dX4_takeNewName_36 rfl (lv_at hl 0 rfl) ?_
      refine g_getL C w fl_X4_63 sth kth (by decide) (fun _ _ _ => rfl) dX4_takeNewName_37 ?_
      refine lv_lstore_n (lv' := [(1, .long (gL o4 th 10)), (0, .ref (B + th))]) C.1 C.2.1 dX4_takeNewName_40 rfl hl (by decide) rfl (fun ls hl => ?_)
      refine lv_aload_n C.1 C.2.1 dX4_takeNewName_41 rfl (lv_at hl 1 rfl) ?_
      obtain ⟨o5, ho5, h⟩ := g_bd h
      refine g_callV (n := 0) (As := []) (rest := []) C w (m_X4_readToken sth kth ho5) (cl_4).1 sth kth (by decide) ml_X4_41 iy_X4_readToken sy_X4_readToken in_X4 cy_X4_readToken ⟨rfl, by decide +kernel, by decide +kernel, by decide +kernel⟩ rfl ⟨Nat.le_of_ble_eq_true rfl, Nat.le_of_ble_eq_true rfl⟩ rfl (Nat.le_of_ble_eq_true rfl) hl.1 ⟨Nat.le_of_ble_eq_true rfl, Nat.le_of_ble_eq_true rfl⟩ dX4_takeNewName_42 (fun H locs w => ?_)
      refine lv_lload_n C.1 C.2.1 dX4_takeNewName_45 rfl (lv_at hl 0 rfl) ?_
      exact g_lretB C w hr dX4_takeNewName_46 h
  · have h := (if_neg hc).symm.trans h
    refine lv_aload_n C.1 C.2.1 dX4_takeNewName_8 rfl (lv_at hl 0 rfl) ?_
    refine lv_iconst (v := 1) C.1 C.2.1 dX4_takeNewName_9 (by decide) ?_
    obtain ⟨o6, ho6, h⟩ := g_bd h
    refine g_callV (n := 1) (As := [.int 1]) (rest := []) C w (m_X4_fail sth kth ho6) (cl_4).1 sth kth (by decide) ml_X4_114 iy_X4_fail sy_X4_fail in_X4 cy_X4_fail ⟨rfl, by decide +kernel, by decide +kernel, by decide +kernel⟩ rfl ⟨Nat.le_of_ble_eq_true rfl, Nat.le_of_ble_eq_true rfl⟩ rfl (Nat.le_of_ble_eq_true rfl) hl.1 ⟨Nat.le_of_ble_eq_true rfl, Nat.le_of_ble_eq_true rfl⟩ dX4_takeNewName_10 (fun H locs w => ?_)
    refine lv_goto (tgt := 36) C.1 C.2.1 dX4_takeNewName_13 (by decide) ?_
    refine lv_aload_n C.1 C.2.1 dX4_takeNewName_36 rfl (lv_at hl 0 rfl) ?_
    refine g_getL C w fl_X4_63 sth kth (by decide) (fun _ _ _ => rfl) dX4_takeNewName_37 ?_
    refine lv_lstore_n (lv' := [(1, .long (gL o6 th 10)), (0, .ref (B + th))]) C.1 C.2.1 dX4_takeNewName_40 rfl hl (by decide) rfl (fun ls hl => ?_)
    refine lv_aload_n C.1 C.2.1 dX4_takeNewName_41 rfl (lv_at hl 1 rfl) ?_
    obtain ⟨o7, ho7, h⟩ := g_bd h
    refine g_callV (n := 0) (As := []) (rest := []) C w (m_X4_readToken sth kth ho7) (cl_4).1 sth kth (by decide) ml_X4_41 iy_X4_readToken sy_X4_readToken in_X4 cy_X4_readToken ⟨rfl, by decide +kernel, by decide +kernel, by decide +kernel⟩ rfl ⟨Nat.le_of_ble_eq_true rfl, Nat.le_of_ble_eq_true rfl⟩ rfl (Nat.le_of_ble_eq_true rfl) hl.1 ⟨Nat.le_of_ble_eq_true rfl, Nat.le_of_ble_eq_true rfl⟩ dX4_takeNewName_42 (fun H locs w => ?_)
    refine lv_lload_n C.1 C.2.1 dX4_takeNewName_45 rfl (lv_at hl 0 rfl) ?_
    exact g_lretB C w hr dX4_takeNewName_46 h

set_option maxHeartbeats 4000000 in
set_option maxRecDepth 100000 in
theorem m_X4_takeRule {l : Launch} {D : va_G} {cA : Nat → ClassId} {B : Nat} {S : Nat → Prop} {σ : GS} {th : Nat} {o : GS × Int32} (sth : S th) (kth : kdG th = 4) (h0 : F_X4_takeRule σ th = some o) : MF l yX4_takeRule cX4_takeRule 2 (some .int) 6 129 D cA B S [.ref (B + th)] σ o.1 (some (.int o.2)) := by
  refine MF.of (by decide +kernel) (Nat.le_of_ble_eq_true rfl) ?_
  intro p e s m args below meth c C hr w ls hl
  have hl : lv_has ls 2 [(0, .ref (B + th))] := hl
  have B_53 : ∀ (σ : GS) (u0 : Int32) (H : Heap) (locs : List Loc) (ls : Array Slot), J_X4_takeRule_53 th σ u0 = some o → WS D cA B S σ s H locs → lv_has ls 2 [(0, .ref (B + th))] → W p l e (rmF 6 129) s m args below meth c H locs 0 0 (MQ below (QF D cA B S o.1 (some (.int o.2))) args s 0 0 (AB B S)) (F0 m 53 ls [.int u0]) := by
    intro σ u0 H locs ls h  w hl
    unfold J_X4_takeRule_53 at h
    refine lv_istore_n (lv' := [(1, .int u0), (0, .ref (B + th))]) C.1 C.2.1 dX4_takeRule_53 rfl hl (by decide) rfl (fun ls hl => ?_)
    refine lv_iload_n C.1 C.2.1 dX4_takeRule_54 rfl (lv_at hl 0 rfl) ?_
    refine lv_iconst (v := (-1)) C.1 C.2.1 dX4_takeRule_55 (by decide) ?_
    refine lv_icmp_ne (tgt := 64) C.1 C.2.1 dX4_takeRule_56 (by decide) (fun hc => ?_) (fun hc => ?_)
    · have h := (if_neg hc).symm.trans h
      refine lv_aload_n C.1 C.2.1 dX4_takeRule_64 rfl (lv_at hl 1 rfl) ?_
      obtain ⟨o5, ho5, h⟩ := g_bd h
      refine g_callV (n := 0) (As := []) (rest := []) C w (m_X4_readToken sth kth ho5) (cl_4).1 sth kth (by decide) ml_X4_41 iy_X4_readToken sy_X4_readToken in_X4 cy_X4_readToken ⟨rfl, by decide +kernel, by decide +kernel, by decide +kernel⟩ rfl ⟨Nat.le_of_ble_eq_true rfl, Nat.le_of_ble_eq_true rfl⟩ rfl (Nat.le_of_ble_eq_true rfl) hl.1 ⟨Nat.le_of_ble_eq_true rfl, Nat.le_of_ble_eq_true rfl⟩ dX4_takeRule_65 (fun H locs w => ?_)
      refine lv_iload_n C.1 C.2.1 dX4_takeRule_68 rfl (lv_at hl 0 rfl) ?_
      exact g_iretB C w hr dX4_takeRule_69 h
    · have h := (if_pos hc).symm.trans h
      refine lv_aload_n C.1 C.2.1 dX4_takeRule_59 rfl (lv_at hl 1 rfl) ?_
      refine lv_iconst (v := 1) C.1 C.2.1 dX4_takeRule_60 (by decide) ?_
      obtain ⟨o6, ho6, h⟩ := g_bd h
      refine g_callV (n := 1) (As := [.int 1]) (rest := []) C w (m_X4_fail sth kth ho6) (cl_4).1 sth kth (by decide) ml_X4_114 iy_X4_fail sy_X4_fail in_X4 cy_X4_fail ⟨rfl, by decide +kernel, by decide +kernel, by decide +kernel⟩ rfl ⟨Nat.le_of_ble_eq_true rfl, Nat.le_of_ble_eq_true rfl⟩ rfl (Nat.le_of_ble_eq_true rfl) hl.1 ⟨Nat.le_of_ble_eq_true rfl, Nat.le_of_ble_eq_true rfl⟩ dX4_takeRule_61 (fun H locs w => ?_)
      refine lv_aload_n C.1 C.2.1 dX4_takeRule_64 rfl (lv_at hl 1 rfl) ?_
      obtain ⟨o7, ho7, h⟩ := g_bd h
      refine g_callV (n := 0) (As := []) (rest := []) C w (m_X4_readToken sth kth ho7) (cl_4).1 sth kth (by decide) ml_X4_41 iy_X4_readToken sy_X4_readToken in_X4 cy_X4_readToken ⟨rfl, by decide +kernel, by decide +kernel, by decide +kernel⟩ rfl ⟨Nat.le_of_ble_eq_true rfl, Nat.le_of_ble_eq_true rfl⟩ rfl (Nat.le_of_ble_eq_true rfl) hl.1 ⟨Nat.le_of_ble_eq_true rfl, Nat.le_of_ble_eq_true rfl⟩ dX4_takeRule_65 (fun H locs w => ?_)
      refine lv_iload_n C.1 C.2.1 dX4_takeRule_68 rfl (lv_at hl 0 rfl) ?_
      exact g_iretB C w hr dX4_takeRule_69 h
  have h := h0
  unfold F_X4_takeRule at h
  refine lv_aload_n C.1 C.2.1 dX4_takeRule_0 rfl (lv_at hl 0 rfl) ?_
  refine g_ldcS (t := 5) C w rfl ⟨rfl, rfl⟩ dX4_takeRule_1 ?_
  obtain ⟨o1, ho1, h⟩ := g_bd h
  refine g_callV (n := 1) (As := [.ref (D.2 100 5)]) (rest := []) C w (m_X4_isWord sth kth (by decide) ho1) (cl_4).1 sth kth (by decide) ml_X4_92 iy_X4_isWord sy_X4_isWord in_X4 cy_X4_isWord ⟨rfl, by decide +kernel, by decide +kernel, by decide +kernel⟩ rfl ⟨Nat.le_of_ble_eq_true rfl, Nat.le_of_ble_eq_true rfl⟩ rfl (Nat.le_of_ble_eq_true rfl) hl.1 ⟨Nat.le_of_ble_eq_true rfl, Nat.le_of_ble_eq_true rfl⟩ dX4_takeRule_3 (fun H locs w => ?_)
  refine lv_if_eq (tgt := 13) C.1 C.2.1 dX4_takeRule_6 (by decide) (fun hc => ?_) (fun hc => ?_)
  · have h := (if_pos hc).symm.trans h
    refine lv_aload_n C.1 C.2.1 dX4_takeRule_13 rfl (lv_at hl 0 rfl) ?_
    refine g_ldcS (t := 6) C w rfl ⟨rfl, rfl⟩ dX4_takeRule_14 ?_
    obtain ⟨o2, ho2, h⟩ := g_bd h
    refine g_callV (n := 1) (As := [.ref (D.2 100 6)]) (rest := []) C w (m_X4_isWord sth kth (by decide) ho2) (cl_4).1 sth kth (by decide) ml_X4_92 iy_X4_isWord sy_X4_isWord in_X4 cy_X4_isWord ⟨rfl, by decide +kernel, by decide +kernel, by decide +kernel⟩ rfl ⟨Nat.le_of_ble_eq_true rfl, Nat.le_of_ble_eq_true rfl⟩ rfl (Nat.le_of_ble_eq_true rfl) hl.1 ⟨Nat.le_of_ble_eq_true rfl, Nat.le_of_ble_eq_true rfl⟩ dX4_takeRule_16 (fun H locs w => ?_)
    refine lv_if_eq (tgt := 26) C.1 C.2.1 dX4_takeRule_19 (by decide) (fun hc => ?_) (fun hc => ?_)
    · have h := (if_pos hc).symm.trans h
      refine lv_aload_n C.1 C.2.1 dX4_takeRule_26 rfl (lv_at hl 0 rfl) ?_
      refine g_ldcS (t := 7) C w rfl ⟨rfl, rfl⟩ dX4_takeRule_27 ?_
      obtain ⟨o3, ho3, h⟩ := g_bd h
      refine g_callV (n := 1) (As := [.ref (D.2 100 7)]) (rest := []) C w (m_X4_isWord sth kth (by decide) ho3) (cl_4).1 sth kth (by decide) ml_X4_92 iy_X4_isWord sy_X4_isWord in_X4 cy_X4_isWord ⟨rfl, by decide +kernel, by decide +kernel, by decide +kernel⟩ rfl ⟨Nat.le_of_ble_eq_true rfl, Nat.le_of_ble_eq_true rfl⟩ rfl (Nat.le_of_ble_eq_true rfl) hl.1 ⟨Nat.le_of_ble_eq_true rfl, Nat.le_of_ble_eq_true rfl⟩ dX4_takeRule_29 (fun H locs w => ?_)
      refine lv_if_eq (tgt := 39) C.1 C.2.1 dX4_takeRule_32 (by decide) (fun hc => ?_) (fun hc => ?_)
      · have h := (if_pos hc).symm.trans h
        refine lv_aload_n C.1 C.2.1 dX4_takeRule_39 rfl (lv_at hl 0 rfl) ?_
        refine g_ldcS (t := 8) C w rfl ⟨rfl, rfl⟩ dX4_takeRule_40 ?_
        obtain ⟨o4, ho4, h⟩ := g_bd h
        refine g_callV (n := 1) (As := [.ref (D.2 100 8)]) (rest := []) C w (m_X4_isWord sth kth (by decide) ho4) (cl_4).1 sth kth (by decide) ml_X4_92 iy_X4_isWord sy_X4_isWord in_X4 cy_X4_isWord ⟨rfl, by decide +kernel, by decide +kernel, by decide +kernel⟩ rfl ⟨Nat.le_of_ble_eq_true rfl, Nat.le_of_ble_eq_true rfl⟩ rfl (Nat.le_of_ble_eq_true rfl) hl.1 ⟨Nat.le_of_ble_eq_true rfl, Nat.le_of_ble_eq_true rfl⟩ dX4_takeRule_42 (fun H locs w => ?_)
        refine lv_if_eq (tgt := 52) C.1 C.2.1 dX4_takeRule_45 (by decide) (fun hc => ?_) (fun hc => ?_)
        · have h := (if_pos hc).symm.trans h
          refine lv_iconst (v := (-1)) C.1 C.2.1 dX4_takeRule_52 (by decide) ?_
          exact B_53 _ _ _ _ _ h w (show lv_has ls 2 [(0, .ref (B + th))] from lv_sub hl [0] rfl)
        · have h := (if_neg hc).symm.trans h
          refine lv_iconst (v := 3) C.1 C.2.1 dX4_takeRule_48 (by decide) ?_
          refine lv_goto (tgt := 53) C.1 C.2.1 dX4_takeRule_49 (by decide) ?_
          exact B_53 _ _ _ _ _ h w (show lv_has ls 2 [(0, .ref (B + th))] from lv_sub hl [0] rfl)
      · have h := (if_neg hc).symm.trans h
        refine lv_iconst (v := 2) C.1 C.2.1 dX4_takeRule_35 (by decide) ?_
        refine lv_goto (tgt := 53) C.1 C.2.1 dX4_takeRule_36 (by decide) ?_
        exact B_53 _ _ _ _ _ h w (show lv_has ls 2 [(0, .ref (B + th))] from lv_sub hl [0] rfl)
    · have h := (if_neg hc).symm.trans h
      refine lv_iconst (v := 1) C.1 C.2.1 dX4_takeRule_22 (by decide) ?_
      refine lv_goto (tgt := 53) C.1 C.2.1 dX4_takeRule_23 (by decide) ?_
      exact B_53 _ _ _ _ _ h w (show lv_has ls 2 [(0, .ref (B + th))] from lv_sub hl [0] rfl)
  · have h := (if_neg hc).symm.trans h
    refine lv_iconst (v := 0) C.1 C.2.1 dX4_takeRule_9 (by decide) ?_
    refine lv_goto (tgt := 53) C.1 C.2.1 dX4_takeRule_10 (by decide) ?_
    exact B_53 _ _ _ _ _ h w (show lv_has ls 2 [(0, .ref (B + th))] from lv_sub hl [0] rfl)

set_option maxHeartbeats 4000000 in
set_option maxRecDepth 100000 in
theorem m_X4_takeWord {l : Launch} {D : va_G} {cA : Nat → ClassId} {B : Nat} {S : Nat → Prop} {σ : GS} {th : Nat} {a1 : Nat} {o : GS} (sth : S th) (kth : kdG th = 4) (ha1 : a1 < strL.length) (h0 : F_X4_takeWord σ th a1 = some o) : MF l yX4_takeWord cX4_takeWord 2 none 6 129 D cA B S [.ref (B + th), .ref (D.2 100 a1)] σ o none := by
  refine MF.of (by decide +kernel) (Nat.le_of_ble_eq_true rfl) ?_
  intro p e s m args below meth c C hr w ls hl
  have hl : lv_has ls 2 [(0, .ref (B + th)), (1, .ref (D.2 100 a1))] := hl
  have h := h0
  unfold F_X4_takeWord at h
  refine lv_aload_n C.1 C.2.1 dX4_takeWord_0 rfl (lv_at hl 0 rfl) ?_
  refine lv_aload_n C.1 C.2.1 dX4_takeWord_1 rfl (lv_at hl 1 rfl) ?_
  obtain ⟨o1, ho1, h⟩ := g_bd h
  refine g_callV (n := 1) (As := [.ref (D.2 100 a1)]) (rest := []) C w (m_X4_isWord sth kth ha1 ho1) (cl_4).1 sth kth (by decide) ml_X4_92 iy_X4_isWord sy_X4_isWord in_X4 cy_X4_isWord ⟨rfl, by decide +kernel, by decide +kernel, by decide +kernel⟩ rfl ⟨Nat.le_of_ble_eq_true rfl, Nat.le_of_ble_eq_true rfl⟩ rfl (Nat.le_of_ble_eq_true rfl) hl.1 ⟨Nat.le_of_ble_eq_true rfl, Nat.le_of_ble_eq_true rfl⟩ dX4_takeWord_2 (fun H locs w => ?_)
  refine lv_if_ne (tgt := 13) C.1 C.2.1 dX4_takeWord_5 (by decide) (fun hc => ?_) (fun hc => ?_)
  · have h := (if_neg hc).symm.trans h
    refine lv_aload_n C.1 C.2.1 dX4_takeWord_13 rfl (lv_at hl 0 rfl) ?_
    obtain ⟨o2, ho2, h⟩ := g_bd h
    refine g_callV (n := 0) (As := []) (rest := []) C w (m_X4_readToken sth kth ho2) (cl_4).1 sth kth (by decide) ml_X4_41 iy_X4_readToken sy_X4_readToken in_X4 cy_X4_readToken ⟨rfl, by decide +kernel, by decide +kernel, by decide +kernel⟩ rfl ⟨Nat.le_of_ble_eq_true rfl, Nat.le_of_ble_eq_true rfl⟩ rfl (Nat.le_of_ble_eq_true rfl) hl.1 ⟨Nat.le_of_ble_eq_true rfl, Nat.le_of_ble_eq_true rfl⟩ dX4_takeWord_14 (fun H locs w => ?_)
    exact g_vretV C w hr dX4_takeWord_17 h
  · have h := (if_pos hc).symm.trans h
    refine lv_aload_n C.1 C.2.1 dX4_takeWord_8 rfl (lv_at hl 0 rfl) ?_
    refine lv_iconst (v := 1) C.1 C.2.1 dX4_takeWord_9 (by decide) ?_
    obtain ⟨o3, ho3, h⟩ := g_bd h
    refine g_callV (n := 1) (As := [.int 1]) (rest := []) C w (m_X4_fail sth kth ho3) (cl_4).1 sth kth (by decide) ml_X4_114 iy_X4_fail sy_X4_fail in_X4 cy_X4_fail ⟨rfl, by decide +kernel, by decide +kernel, by decide +kernel⟩ rfl ⟨Nat.le_of_ble_eq_true rfl, Nat.le_of_ble_eq_true rfl⟩ rfl (Nat.le_of_ble_eq_true rfl) hl.1 ⟨Nat.le_of_ble_eq_true rfl, Nat.le_of_ble_eq_true rfl⟩ dX4_takeWord_10 (fun H locs w => ?_)
    refine lv_aload_n C.1 C.2.1 dX4_takeWord_13 rfl (lv_at hl 0 rfl) ?_
    obtain ⟨o4, ho4, h⟩ := g_bd h
    refine g_callV (n := 0) (As := []) (rest := []) C w (m_X4_readToken sth kth ho4) (cl_4).1 sth kth (by decide) ml_X4_41 iy_X4_readToken sy_X4_readToken in_X4 cy_X4_readToken ⟨rfl, by decide +kernel, by decide +kernel, by decide +kernel⟩ rfl ⟨Nat.le_of_ble_eq_true rfl, Nat.le_of_ble_eq_true rfl⟩ rfl (Nat.le_of_ble_eq_true rfl) hl.1 ⟨Nat.le_of_ble_eq_true rfl, Nat.le_of_ble_eq_true rfl⟩ dX4_takeWord_14 (fun H locs w => ?_)
    exact g_vretV C w hr dX4_takeWord_17 h

set_option maxHeartbeats 4000000 in
set_option maxRecDepth 100000 in
theorem m_X4_takeSemicolon {l : Launch} {D : va_G} {cA : Nat → ClassId} {B : Nat} {S : Nat → Prop} {σ : GS} {th : Nat} {o : GS} (sth : S th) (kth : kdG th = 4) (h0 : F_X4_takeSemicolon σ th = some o) : MF l yX4_takeSemicolon cX4_takeSemicolon 1 none 2 42 D cA B S [.ref (B + th)] σ o none := by
  refine MF.of (by decide +kernel) (Nat.le_of_ble_eq_true rfl) ?_
  intro p e s m args below meth c C hr w ls hl
  have hl : lv_has ls 1 [(0, .ref (B + th))] := hl
  have h := h0
  unfold F_X4_takeSemicolon at h
  refine lv_aload_n C.1 C.2.1 dX4_takeSemicolon_0 rfl (lv_at hl 0 rfl) ?_
  refine g_getI C w fl_X4_47 sth kth (by decide) (fun _ _ _ => rfl) dX4_takeSemicolon_1 ?_
  refine lv_iconst (v := 3) C.1 C.2.1 dX4_takeSemicolon_4 (by decide) ?_
  refine lv_icmp_eq (tgt := 13) C.1 C.2.1 dX4_takeSemicolon_5 (by decide) (fun hc => ?_) (fun hc => ?_)
  · have h := (if_pos hc).symm.trans h
    refine lv_aload_n C.1 C.2.1 dX4_takeSemicolon_13 rfl (lv_at hl 0 rfl) ?_
    obtain ⟨o1, ho1, h⟩ := g_bd h
    refine g_callV (n := 0) (As := []) (rest := []) C w (m_X4_readToken sth kth ho1) (cl_4).1 sth kth (by decide) ml_X4_41 iy_X4_readToken sy_X4_readToken in_X4 cy_X4_readToken ⟨rfl, by decide +kernel, by decide +kernel, by decide +kernel⟩ rfl ⟨Nat.le_of_ble_eq_true rfl, Nat.le_of_ble_eq_true rfl⟩ rfl (Nat.le_of_ble_eq_true rfl) hl.1 ⟨Nat.le_of_ble_eq_true rfl, Nat.le_of_ble_eq_true rfl⟩ dX4_takeSemicolon_14 (fun H locs w => ?_)
    exact g_vretV C w hr dX4_takeSemicolon_17 h
  · have h := (if_neg hc).symm.trans h
    refine lv_aload_n C.1 C.2.1 dX4_takeSemicolon_8 rfl (lv_at hl 0 rfl) ?_
    refine lv_iconst (v := 1) C.1 C.2.1 dX4_takeSemicolon_9 (by decide) ?_
    obtain ⟨o2, ho2, h⟩ := g_bd h
    refine g_callV (n := 1) (As := [.int 1]) (rest := []) C w (m_X4_fail sth kth ho2) (cl_4).1 sth kth (by decide) ml_X4_114 iy_X4_fail sy_X4_fail in_X4 cy_X4_fail ⟨rfl, by decide +kernel, by decide +kernel, by decide +kernel⟩ rfl ⟨Nat.le_of_ble_eq_true rfl, Nat.le_of_ble_eq_true rfl⟩ rfl (Nat.le_of_ble_eq_true rfl) hl.1 ⟨Nat.le_of_ble_eq_true rfl, Nat.le_of_ble_eq_true rfl⟩ dX4_takeSemicolon_10 (fun H locs w => ?_)
    refine lv_aload_n C.1 C.2.1 dX4_takeSemicolon_13 rfl (lv_at hl 0 rfl) ?_
    obtain ⟨o3, ho3, h⟩ := g_bd h
    refine g_callV (n := 0) (As := []) (rest := []) C w (m_X4_readToken sth kth ho3) (cl_4).1 sth kth (by decide) ml_X4_41 iy_X4_readToken sy_X4_readToken in_X4 cy_X4_readToken ⟨rfl, by decide +kernel, by decide +kernel, by decide +kernel⟩ rfl ⟨Nat.le_of_ble_eq_true rfl, Nat.le_of_ble_eq_true rfl⟩ rfl (Nat.le_of_ble_eq_true rfl) hl.1 ⟨Nat.le_of_ble_eq_true rfl, Nat.le_of_ble_eq_true rfl⟩ dX4_takeSemicolon_14 (fun H locs w => ?_)
    exact g_vretV C w hr dX4_takeSemicolon_17 h

set_option maxHeartbeats 4000000 in
set_option maxRecDepth 100000 in
theorem m_X4_takeNumber {l : Launch} {D : va_G} {cA : Nat → ClassId} {B : Nat} {S : Nat → Prop} {σ : GS} {th : Nat} {a1 : Int32} {a2 : Int32} {o : GS × Int32} (sth : S th) (kth : kdG th = 4) (h0 : F_X4_takeNumber σ th a1 a2 = some o) : MF l yX4_takeNumber cX4_takeNumber 4 (some .int) 2 43 D cA B S [.ref (B + th), .int a1, .int a2] σ o.1 (some (.int o.2)) := by
  refine MF.of (by decide +kernel) (Nat.le_of_ble_eq_true rfl) ?_
  intro p e s m args below meth c C hr w ls hl
  have hl : lv_has ls 4 [(0, .ref (B + th)), (1, .int a1), (2, .int a2)] := hl
  have h := h0
  unfold F_X4_takeNumber at h
  refine lv_aload_n C.1 C.2.1 dX4_takeNumber_0 rfl (lv_at hl 0 rfl) ?_
  refine lv_iload_n C.1 C.2.1 dX4_takeNumber_1 rfl (lv_at hl 1 rfl) ?_
  refine lv_iload_n C.1 C.2.1 dX4_takeNumber_2 rfl (lv_at hl 2 rfl) ?_
  obtain ⟨o1, ho1, h⟩ := g_bd h
  refine g_callV (n := 2) (As := [.int a1, .int a2]) (rest := []) C w (m_X4_testNumber sth kth ho1) (cl_4).1 sth kth (by decide) ml_X4_128 iy_X4_testNumber sy_X4_testNumber in_X4 cy_X4_testNumber ⟨rfl, by decide +kernel, by decide +kernel, by decide +kernel⟩ rfl ⟨Nat.le_of_ble_eq_true rfl, Nat.le_of_ble_eq_true rfl⟩ rfl (Nat.le_of_ble_eq_true rfl) hl.1 ⟨Nat.le_of_ble_eq_true rfl, Nat.le_of_ble_eq_true rfl⟩ dX4_takeNumber_3 (fun H locs w => ?_)
  refine lv_aload_n C.1 C.2.1 dX4_takeNumber_6 rfl (lv_at hl 0 rfl) ?_
  refine g_getI C w fl_X4_131 sth kth (by decide) (fun _ _ _ => rfl) dX4_takeNumber_7 ?_
  refine lv_istore_n (lv' := [(3, .int (gI o1 th 9)), (0, .ref (B + th)), (1, .int a1), (2, .int a2)]) C.1 C.2.1 dX4_takeNumber_10 rfl hl (by decide) rfl (fun ls hl => ?_)
  refine lv_aload_n C.1 C.2.1 dX4_takeNumber_11 rfl (lv_at hl 1 rfl) ?_
  obtain ⟨o2, ho2, h⟩ := g_bd h
  refine g_callV (n := 0) (As := []) (rest := []) C w (m_X4_readToken sth kth ho2) (cl_4).1 sth kth (by decide) ml_X4_41 iy_X4_readToken sy_X4_readToken in_X4 cy_X4_readToken ⟨rfl, by decide +kernel, by decide +kernel, by decide +kernel⟩ rfl ⟨Nat.le_of_ble_eq_true rfl, Nat.le_of_ble_eq_true rfl⟩ rfl (Nat.le_of_ble_eq_true rfl) hl.1 ⟨Nat.le_of_ble_eq_true rfl, Nat.le_of_ble_eq_true rfl⟩ dX4_takeNumber_12 (fun H locs w => ?_)
  refine lv_iload_n C.1 C.2.1 dX4_takeNumber_15 rfl (lv_at hl 0 rfl) ?_
  exact g_iretB C w hr dX4_takeNumber_16 h

set_option maxHeartbeats 4000000 in
set_option maxRecDepth 100000 in
theorem m_X5_passTick {l : Launch} {D : va_G} {cA : Nat → ClassId} {B : Nat} {S : Nat → Prop} {σ : GS} {th : Nat} {o : GS} (sth : S th) (kth : kdG th = 5) (h0 : F_X5_passTick σ th = some o) : MF l yX5_passTick cX5_passTick 5 none 3 74 D cA B S [.ref (B + th)] σ o none := by
  refine MF.of (by decide +kernel) (Nat.le_of_ble_eq_true rfl) ?_
  intro p e s m args below meth c C hr w ls hl
  have hl : lv_has ls 5 [(0, .ref (B + th))] := hl
  have B_92 : ∀ (n92 : Nat) (σ : GS) (v3 : Int32) (H : Heap) (locs : List Loc) (ls : Array Slot), L_X5_passTick_92 th n92 σ v3 = some o → S (rfG th 2) → kdG (rfG th 2) = 13 → WS D cA B S σ s H locs → lv_has ls 5 [(0, .ref (B + th)), (1, .ref (B + (rfG th 2))), (2, .int (nI (lnG (rfG th 2)))), (3, .int v3)] → W p l e (rmF 3 74) s m args below meth c H locs 0 0 (MQ below (QF D cA B S o none) args s 0 0 (AB B S)) (F0 m 92 ls []) := by
    intro n92
    induction n92 with
    | zero => intro σ v3 H locs ls h; exact nomatch (show (none : Option (GS)) = some o from h)
    | succ n92 ih92 =>
      intro σ v3 H locs ls h s7 k7 w hl
      unfold L_X5_passTick_92 at h
      refine lv_iload_n C.1 C.2.1 dX5_passTick_92 rfl (lv_at hl 3 rfl) ?_
      refine lv_iload_n C.1 C.2.1 dX5_passTick_93 rfl (lv_at hl 2 rfl) ?_
      refine lv_icmp_ge (tgt := 117) C.1 C.2.1 dX5_passTick_94 (by decide) (fun hc => ?_) (fun hc => ?_)
      · have h := (if_pos hc).symm.trans h
        refine lv_aload_n C.1 C.2.1 dX5_passTick_117 rfl (lv_at hl 0 rfl) ?_
        refine lv_dup C.1 C.2.1 dX5_passTick_118 rfl ?_
        refine g_getI C w fl_X5_51 sth kth (by decide) (fun _ _ _ => rfl) dX5_passTick_119 ?_
        refine lv_iconst (v := 1) C.1 C.2.1 dX5_passTick_122 (by decide) ?_
        refine lv_iadd C.1 C.2.1 dX5_passTick_123 ?_
        refine g_putI C w fw_X5_51 sth kth (by decide) (fun _ _ _ => rfl) rfl rfl dX5_passTick_124 (fun H locs w => ?_)
        exact g_vretV C w hr dX5_passTick_127 h
      · have h := (if_neg hc).symm.trans h
        refine lv_aload_n C.1 C.2.1 dX5_passTick_97 rfl (lv_at hl 1 rfl) ?_
        refine lv_iload_n C.1 C.2.1 dX5_passTick_98 rfl (lv_at hl 3 rfl) ?_
        obtain ⟨hb, h⟩ := g_ob h
        refine g_aald C w s7 k7 (by decide) (by decide) rfl rfl (fun _ _ _ _ => rfl) kr_13 hb dX5_passTick_99 (fun s11 k11 => ?_)
        refine lv_astore (lv' := [(4, .ref (B + (rfG (rfG th 2) v3.toNatClampNeg))), (0, .ref (B + th)), (1, .ref (B + (rfG th 2))), (2, .int (nI (lnG (rfG th 2)))), (3, .int v3)]) C.1 C.2.1 dX5_passTick_100 hl (by decide) rfl (fun ls hl => ?_)
        refine lv_aload C.1 C.2.1 dX5_passTick_102 (lv_at hl 0 rfl) ?_
        refine lv_aload_n C.1 C.2.1 dX5_passTick_104 rfl (lv_at hl 1 rfl) ?_
        refine g_getI C w fl_X5_51 sth kth (by decide) (fun _ _ _ => rfl) dX5_passTick_105 ?_
        obtain ⟨o12, ho12, h⟩ := g_bd h
        refine g_callV (n := 1) (As := [.int (gI σ th 3)]) (rest := []) C w (m_X3_play s11 k11 ho12) (cl_3).1 s11 k11 (by decide) ml_X5_87 iy_X3_play sy_X3_play in_X3 cy_X3_play ⟨rfl, by decide +kernel, by decide +kernel, by decide +kernel⟩ rfl ⟨Nat.le_of_ble_eq_true rfl, Nat.le_of_ble_eq_true rfl⟩ rfl (Nat.le_of_ble_eq_true rfl) hl.1 ⟨Nat.le_of_ble_eq_true rfl, Nat.le_of_ble_eq_true rfl⟩ dX5_passTick_108 (fun H locs w => ?_)
        refine lv_iinc (k := 4) (v := v3 + 1) (lv' := [(3, .int (v3 + 1)), (4, .ref (B + (rfG (rfG th 2) v3.toNatClampNeg))), (0, .ref (B + th)), (1, .ref (B + (rfG th 2))), (2, .int (nI (lnG (rfG th 2))))]) C.1 C.2.1 dX5_passTick_111 hl rfl rfl (by decide) rfl (fun ls hl => ?_)
        refine lv_goto (tgt := 92) C.1 C.2.1 dX5_passTick_114 (by decide) ?_
        exact ih92 _ _ _ _ _ h s7 k7 w (show lv_has ls 5 [(0, .ref (B + th)), (1, .ref (B + (rfG th 2))), (2, .int (nI (lnG (rfG th 2)))), (3, .int (v3 + 1))] from lv_sub hl [2, 3, 4, 0] rfl)
  have B_57 : ∀ (n57 : Nat) (σ : GS) (v3 : Int32) (H : Heap) (locs : List Loc) (ls : Array Slot), L_X5_passTick_57 th n57 σ v3 = some o → S (rfG th 2) → kdG (rfG th 2) = 13 → WS D cA B S σ s H locs → lv_has ls 5 [(0, .ref (B + th)), (1, .ref (B + (rfG th 2))), (2, .int (nI (lnG (rfG th 2)))), (3, .int v3)] → W p l e (rmF 3 74) s m args below meth c H locs 0 0 (MQ below (QF D cA B S o none) args s 0 0 (AB B S)) (F0 m 57 ls []) := by
    intro n57
    induction n57 with
    | zero => intro σ v3 H locs ls h; exact nomatch (show (none : Option (GS)) = some o from h)
    | succ n57 ih57 =>
      intro σ v3 H locs ls h s4 k4 w hl
      unfold L_X5_passTick_57 at h
      refine lv_iload_n C.1 C.2.1 dX5_passTick_57 rfl (lv_at hl 3 rfl) ?_
      refine lv_iload_n C.1 C.2.1 dX5_passTick_58 rfl (lv_at hl 2 rfl) ?_
      refine lv_icmp_ge (tgt := 82) C.1 C.2.1 dX5_passTick_59 (by decide) (fun hc => ?_) (fun hc => ?_)
      · have h := (if_pos hc).symm.trans h
        refine lv_aload_n C.1 C.2.1 dX5_passTick_82 rfl (lv_at hl 0 rfl) ?_
        refine g_getR C w fl_X5_17 sth kth (by decide) kt_5_2 (fun _ _ _ => rfl) dX5_passTick_83 (fun s7 k7 => ?_)
        refine lv_astore_n (lv' := [(1, .ref (B + (rfG th 2))), (0, .ref (B + th)), (2, .int (nI (lnG (rfG th 2)))), (3, .int v3)]) C.1 C.2.1 dX5_passTick_86 rfl hl (by decide) rfl (fun ls hl => ?_)
        refine lv_aload_n C.1 C.2.1 dX5_passTick_87 rfl (lv_at hl 0 rfl) ?_
        refine g_alen C w s7 k7 (by decide) (by decide) dX5_passTick_88 ?_
        refine lv_istore_n (lv' := [(2, .int (nI (lnG (rfG th 2)))), (1, .ref (B + (rfG th 2))), (0, .ref (B + th)), (3, .int v3)]) C.1 C.2.1 dX5_passTick_89 rfl hl (by decide) rfl (fun ls hl => ?_)
        refine lv_iconst (v := 0) C.1 C.2.1 dX5_passTick_90 (by decide) ?_
        refine lv_istore_n (lv' := [(3, .int 0), (2, .int (nI (lnG (rfG th 2)))), (1, .ref (B + (rfG th 2))), (0, .ref (B + th))]) C.1 C.2.1 dX5_passTick_91 rfl hl (by decide) rfl (fun ls hl => ?_)
        exact B_92 _ _ _ _ _ _ h s7 k7 w (show lv_has ls 5 [(0, .ref (B + th)), (1, .ref (B + (rfG th 2))), (2, .int (nI (lnG (rfG th 2)))), (3, .int 0)] from lv_sub hl [3, 2, 1, 0] rfl)
      · have h := (if_neg hc).symm.trans h
        refine lv_aload_n C.1 C.2.1 dX5_passTick_62 rfl (lv_at hl 1 rfl) ?_
        refine lv_iload_n C.1 C.2.1 dX5_passTick_63 rfl (lv_at hl 3 rfl) ?_
        obtain ⟨hb, h⟩ := g_ob h
        refine g_aald C w s4 k4 (by decide) (by decide) rfl rfl (fun _ _ _ _ => rfl) kr_13 hb dX5_passTick_64 (fun s8 k8 => ?_)
        refine lv_astore (lv' := [(4, .ref (B + (rfG (rfG th 2) v3.toNatClampNeg))), (0, .ref (B + th)), (1, .ref (B + (rfG th 2))), (2, .int (nI (lnG (rfG th 2)))), (3, .int v3)]) C.1 C.2.1 dX5_passTick_65 hl (by decide) rfl (fun ls hl => ?_)
        refine lv_aload C.1 C.2.1 dX5_passTick_67 (lv_at hl 0 rfl) ?_
        refine lv_aload_n C.1 C.2.1 dX5_passTick_69 rfl (lv_at hl 1 rfl) ?_
        refine g_getI C w fl_X5_51 sth kth (by decide) (fun _ _ _ => rfl) dX5_passTick_70 ?_
        obtain ⟨o9, ho9, h⟩ := g_bd h
        refine g_callV (n := 1) (As := [.int (gI σ th 3)]) (rest := []) C w (m_X3_finishLoad s8 k8 ho9) (cl_3).1 s8 k8 (by decide) ml_X5_84 iy_X3_finishLoad sy_X3_finishLoad in_X3 cy_X3_finishLoad ⟨rfl, by decide +kernel, by decide +kernel, by decide +kernel⟩ rfl ⟨Nat.le_of_ble_eq_true rfl, Nat.le_of_ble_eq_true rfl⟩ rfl (Nat.le_of_ble_eq_true rfl) hl.1 ⟨Nat.le_of_ble_eq_true rfl, Nat.le_of_ble_eq_true rfl⟩ dX5_passTick_73 (fun H locs w => ?_)
        refine lv_iinc (k := 4) (v := v3 + 1) (lv' := [(3, .int (v3 + 1)), (4, .ref (B + (rfG (rfG th 2) v3.toNatClampNeg))), (0, .ref (B + th)), (1, .ref (B + (rfG th 2))), (2, .int (nI (lnG (rfG th 2))))]) C.1 C.2.1 dX5_passTick_76 hl rfl rfl (by decide) rfl (fun ls hl => ?_)
        refine lv_goto (tgt := 57) C.1 C.2.1 dX5_passTick_79 (by decide) ?_
        exact ih57 _ _ _ _ _ h s4 k4 w (show lv_has ls 5 [(0, .ref (B + th)), (1, .ref (B + (rfG th 2))), (2, .int (nI (lnG (rfG th 2)))), (3, .int (v3 + 1))] from lv_sub hl [2, 3, 4, 0] rfl)
  have B_10 : ∀ (n10 : Nat) (σ : GS) (v3 : Int32) (H : Heap) (locs : List Loc) (ls : Array Slot), L_X5_passTick_10 th n10 σ v3 = some o → S (rfG th 2) → kdG (rfG th 2) = 13 → WS D cA B S σ s H locs → lv_has ls 5 [(0, .ref (B + th)), (1, .ref (B + (rfG th 2))), (2, .int (nI (lnG (rfG th 2)))), (3, .int v3)] → W p l e (rmF 3 74) s m args below meth c H locs 0 0 (MQ below (QF D cA B S o none) args s 0 0 (AB B S)) (F0 m 10 ls []) := by
    intro n10
    induction n10 with
    | zero => intro σ v3 H locs ls h; exact nomatch (show (none : Option (GS)) = some o from h)
    | succ n10 ih10 =>
      intro σ v3 H locs ls h s1 k1 w hl
      unfold L_X5_passTick_10 at h
      refine lv_iload_n C.1 C.2.1 dX5_passTick_10 rfl (lv_at hl 3 rfl) ?_
      refine lv_iload_n C.1 C.2.1 dX5_passTick_11 rfl (lv_at hl 2 rfl) ?_
      refine lv_icmp_ge (tgt := 35) C.1 C.2.1 dX5_passTick_12 (by decide) (fun hc => ?_) (fun hc => ?_)
      · have h := (if_pos hc).symm.trans h
        refine lv_aload_n C.1 C.2.1 dX5_passTick_35 rfl (lv_at hl 0 rfl) ?_
        refine lv_aload_n C.1 C.2.1 dX5_passTick_36 rfl (lv_at hl 0 rfl) ?_
        refine lv_aload_n C.1 C.2.1 dX5_passTick_37 rfl (lv_at hl 0 rfl) ?_
        refine g_getI C w fl_X5_51 sth kth (by decide) (fun _ _ _ => rfl) dX5_passTick_38 ?_
        obtain ⟨o2, ho2, h⟩ := g_bd h
        refine g_callV (n := 1) (As := [.int (gI σ th 3)]) (rest := [.ref (B + th)]) C w (m_X5_rateAt sth kth ho2) (cl_5).1 sth kth (by decide) ml_X5_77 iy_X5_rateAt sy_X5_rateAt in_X5 cy_X5_rateAt ⟨rfl, by decide +kernel, by decide +kernel, by decide +kernel⟩ rfl ⟨Nat.le_of_ble_eq_true rfl, Nat.le_of_ble_eq_true rfl⟩ rfl (Nat.le_of_ble_eq_true rfl) hl.1 ⟨Nat.le_of_ble_eq_true rfl, Nat.le_of_ble_eq_true rfl⟩ dX5_passTick_41 (fun H locs w => ?_)
        obtain ⟨o3, ho3, h⟩ := g_bd h
        refine g_callV (n := 1) (As := [.int o2]) (rest := []) C w (m_X5_shareLink sth kth ho3) (cl_5).1 sth kth (by decide) ml_X5_81 iy_X5_shareLink sy_X5_shareLink in_X5 cy_X5_shareLink ⟨rfl, by decide +kernel, by decide +kernel, by decide +kernel⟩ rfl ⟨Nat.le_of_ble_eq_true rfl, Nat.le_of_ble_eq_true rfl⟩ rfl (Nat.le_of_ble_eq_true rfl) hl.1 ⟨Nat.le_of_ble_eq_true rfl, Nat.le_of_ble_eq_true rfl⟩ dX5_passTick_44 (fun H locs w => ?_)
        refine lv_aload_n C.1 C.2.1 dX5_passTick_47 rfl (lv_at hl 0 rfl) ?_
        refine g_getR C w fl_X5_17 sth kth (by decide) kt_5_2 (fun _ _ _ => rfl) dX5_passTick_48 (fun s4 k4 => ?_)
        refine lv_astore_n (lv' := [(1, .ref (B + (rfG th 2))), (0, .ref (B + th)), (2, .int (nI (lnG (rfG th 2)))), (3, .int v3)]) C.1 C.2.1 dX5_passTick_51 rfl hl (by decide) rfl (fun ls hl => ?_)
        refine lv_aload_n C.1 C.2.1 dX5_passTick_52 rfl (lv_at hl 0 rfl) ?_
        refine g_alen C w s4 k4 (by decide) (by decide) dX5_passTick_53 ?_
        refine lv_istore_n (lv' := [(2, .int (nI (lnG (rfG th 2)))), (1, .ref (B + (rfG th 2))), (0, .ref (B + th)), (3, .int v3)]) C.1 C.2.1 dX5_passTick_54 rfl hl (by decide) rfl (fun ls hl => ?_)
        refine lv_iconst (v := 0) C.1 C.2.1 dX5_passTick_55 (by decide) ?_
        refine lv_istore_n (lv' := [(3, .int 0), (2, .int (nI (lnG (rfG th 2)))), (1, .ref (B + (rfG th 2))), (0, .ref (B + th))]) C.1 C.2.1 dX5_passTick_56 rfl hl (by decide) rfl (fun ls hl => ?_)
        exact B_57 _ _ _ _ _ _ h s4 k4 w (show lv_has ls 5 [(0, .ref (B + th)), (1, .ref (B + (rfG th 2))), (2, .int (nI (lnG (rfG th 2)))), (3, .int 0)] from lv_sub hl [3, 2, 1, 0] rfl)
      · have h := (if_neg hc).symm.trans h
        refine lv_aload_n C.1 C.2.1 dX5_passTick_15 rfl (lv_at hl 1 rfl) ?_
        refine lv_iload_n C.1 C.2.1 dX5_passTick_16 rfl (lv_at hl 3 rfl) ?_
        obtain ⟨hb, h⟩ := g_ob h
        refine g_aald C w s1 k1 (by decide) (by decide) rfl rfl (fun _ _ _ _ => rfl) kr_13 hb dX5_passTick_17 (fun s5 k5 => ?_)
        refine lv_astore (lv' := [(4, .ref (B + (rfG (rfG th 2) v3.toNatClampNeg))), (0, .ref (B + th)), (1, .ref (B + (rfG th 2))), (2, .int (nI (lnG (rfG th 2)))), (3, .int v3)]) C.1 C.2.1 dX5_passTick_18 hl (by decide) rfl (fun ls hl => ?_)
        refine lv_aload C.1 C.2.1 dX5_passTick_20 (lv_at hl 0 rfl) ?_
        refine lv_aload_n C.1 C.2.1 dX5_passTick_22 rfl (lv_at hl 1 rfl) ?_
        refine g_getI C w fl_X5_51 sth kth (by decide) (fun _ _ _ => rfl) dX5_passTick_23 ?_
        obtain ⟨o6, ho6, h⟩ := g_bd h
        refine g_callV (n := 1) (As := [.int (gI σ th 3)]) (rest := []) C w (m_X3_ask s5 k5 ho6) (cl_3).1 s5 k5 (by decide) ml_X5_73 iy_X3_ask sy_X3_ask in_X3 cy_X3_ask ⟨rfl, by decide +kernel, by decide +kernel, by decide +kernel⟩ rfl ⟨Nat.le_of_ble_eq_true rfl, Nat.le_of_ble_eq_true rfl⟩ rfl (Nat.le_of_ble_eq_true rfl) hl.1 ⟨Nat.le_of_ble_eq_true rfl, Nat.le_of_ble_eq_true rfl⟩ dX5_passTick_26 (fun H locs w => ?_)
        refine lv_iinc (k := 4) (v := v3 + 1) (lv' := [(3, .int (v3 + 1)), (4, .ref (B + (rfG (rfG th 2) v3.toNatClampNeg))), (0, .ref (B + th)), (1, .ref (B + (rfG th 2))), (2, .int (nI (lnG (rfG th 2))))]) C.1 C.2.1 dX5_passTick_29 hl rfl rfl (by decide) rfl (fun ls hl => ?_)
        refine lv_goto (tgt := 10) C.1 C.2.1 dX5_passTick_32 (by decide) ?_
        exact ih10 _ _ _ _ _ h s1 k1 w (show lv_has ls 5 [(0, .ref (B + th)), (1, .ref (B + (rfG th 2))), (2, .int (nI (lnG (rfG th 2)))), (3, .int (v3 + 1))] from lv_sub hl [2, 3, 4, 0] rfl)
  have h := h0
  unfold F_X5_passTick at h
  refine lv_aload_n C.1 C.2.1 dX5_passTick_0 rfl (lv_at hl 0 rfl) ?_
  refine g_getR C w fl_X5_17 sth kth (by decide) kt_5_2 (fun _ _ _ => rfl) dX5_passTick_1 (fun s1 k1 => ?_)
  refine lv_astore_n (lv' := [(1, .ref (B + (rfG th 2))), (0, .ref (B + th))]) C.1 C.2.1 dX5_passTick_4 rfl hl (by decide) rfl (fun ls hl => ?_)
  refine lv_aload_n C.1 C.2.1 dX5_passTick_5 rfl (lv_at hl 0 rfl) ?_
  refine g_alen C w s1 k1 (by decide) (by decide) dX5_passTick_6 ?_
  refine lv_istore_n (lv' := [(2, .int (nI (lnG (rfG th 2)))), (1, .ref (B + (rfG th 2))), (0, .ref (B + th))]) C.1 C.2.1 dX5_passTick_7 rfl hl (by decide) rfl (fun ls hl => ?_)
  refine lv_iconst (v := 0) C.1 C.2.1 dX5_passTick_8 (by decide) ?_
  refine lv_istore_n (lv' := [(3, .int 0), (2, .int (nI (lnG (rfG th 2)))), (1, .ref (B + (rfG th 2))), (0, .ref (B + th))]) C.1 C.2.1 dX5_passTick_9 rfl hl (by decide) rfl (fun ls hl => ?_)
  exact B_10 _ _ _ _ _ _ h s1 k1 w (show lv_has ls 5 [(0, .ref (B + th)), (1, .ref (B + (rfG th 2))), (2, .int (nI (lnG (rfG th 2)))), (3, .int 0)] from lv_sub hl [3, 2, 1, 0] rfl)

