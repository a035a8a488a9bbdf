set_option maxHeartbeats 4000000 in
set_option maxRecDepth 100000 in
theorem m_X0_clear {l : Launch} {D : va_G} {cA : Nat → ClassId} {B : BA} {S : Nat → Prop} {σ : GS} {th : Nat} {o : GS} (sth : S th) (kth : kdG th = 0) (h0 : F_X0_clear σ th = some o) : MF l yX0_clear cX0_clear 1 none 0 0 D cA B S [.ref (B.1 th)] σ o none := by
  refine MF.of (by decide +kernel) (Nat.le_of_ble_eq_true rfl) ?_
  intro p e s m args below meth c C hr w ls hl
  have hl : lv_has ls 1 [(0, .ref (B.1 th))] := hl
  have h := h0
  unfold F_X0_clear at h
  refine lv_aload_n C.1 C.2.1 dX0_clear_0 rfl (lv_at hl 0 rfl) ?_
  refine lv_iconst (v := 0) C.1 C.2.1 dX0_clear_1 (by decide) ?_
  refine g_putI C w fw_X0_20 sth kth (by decide) (fun _ _ _ => rfl) rfl rfl dX0_clear_2 (fun H locs w => ?_)
  exact g_vretV C w hr dX0_clear_5 h

set_option maxHeartbeats 4000000 in
set_option maxRecDepth 100000 in
theorem m_X1_addPiece {l : Launch} {D : va_G} {cA : Nat → ClassId} {B : BA} {S : Nat → Prop} {σ : GS} {th : Nat} {a1 : Int32} {a2 : Int32} {o : GS} (sth : S th) (kth : kdG th = 1) (h0 : F_X1_addPiece σ th a1 a2 = some o) : MF l yX1_addPiece cX1_addPiece 3 none 0 0 D cA B S [.ref (B.1 th), .int a1, .int a2] σ o none := by
  refine MF.of (by decide +kernel) (Nat.le_of_ble_eq_true rfl) ?_
  intro p e s m args below meth c C hr w ls hl
  have hl : lv_has ls 3 [(0, .ref (B.1 th)), (1, .int a1), (2, .int a2)] := hl
  have h := h0
  unfold F_X1_addPiece at h
  refine lv_aload_n C.1 C.2.1 dX1_addPiece_0 rfl (lv_at hl 0 rfl) ?_
  refine g_getI C w fl_X1_49 sth kth (by decide) (fun _ _ _ => rfl) dX1_addPiece_1 ?_
  refine lv_aload_n C.1 C.2.1 dX1_addPiece_4 rfl (lv_at hl 0 rfl) ?_
  refine g_getR C w fl_X1_9 sth kth (by decide) kt_1_0 (fun _ _ _ => rfl) dX1_addPiece_5 (fun s1 k1 => ?_)
  refine g_alen C w s1 k1 (by decide) (by decide) dX1_addPiece_8 ?_
  refine lv_icmp_ge (tgt := 64) C.1 C.2.1 dX1_addPiece_9 (by decide) (fun hc => ?_) (fun hc => ?_)
  · have h := (if_pos hc).symm.trans h
    exact g_vretV C w hr dX1_addPiece_64 h
  · have h := (if_neg hc).symm.trans h
    refine lv_aload_n C.1 C.2.1 dX1_addPiece_12 rfl (lv_at hl 0 rfl) ?_
    refine g_getI C w fl_X1_49 sth kth (by decide) (fun _ _ _ => rfl) dX1_addPiece_13 ?_
    refine lv_aload_n C.1 C.2.1 dX1_addPiece_16 rfl (lv_at hl 0 rfl) ?_
    refine g_getR C w fl_X1_15 sth kth (by decide) kt_1_1 (fun _ _ _ => rfl) dX1_addPiece_17 (fun s2 k2 => ?_)
    refine g_alen C w s2 k2 (by decide) (by decide) dX1_addPiece_20 ?_
    refine lv_icmp_ge (tgt := 64) C.1 C.2.1 dX1_addPiece_21 (by decide) (fun hc => ?_) (fun hc => ?_)
    · have h := (if_pos hc).symm.trans h
      exact g_vretV C w hr dX1_addPiece_64 h
    · have h := (if_neg hc).symm.trans h
      refine lv_aload_n C.1 C.2.1 dX1_addPiece_24 rfl (lv_at hl 0 rfl) ?_
      refine g_getR C w fl_X1_9 sth kth (by decide) kt_1_0 (fun _ _ _ => rfl) dX1_addPiece_25 (fun s3 k3 => ?_)
      refine lv_aload_n C.1 C.2.1 dX1_addPiece_28 rfl (lv_at hl 0 rfl) ?_
      refine g_getI C w fl_X1_49 sth kth (by decide) (fun _ _ _ => rfl) dX1_addPiece_29 ?_
      refine lv_iload_n C.1 C.2.1 dX1_addPiece_32 rfl (lv_at hl 1 rfl) ?_
      obtain ⟨hb, h⟩ := g_ob h
      refine g_iast C w s3 k3 hb dX1_addPiece_33 (fun H locs w => ?_)
      refine lv_aload_n C.1 C.2.1 dX1_addPiece_34 rfl (lv_at hl 0 rfl) ?_
      refine g_getR C w fl_X1_15 sth kth (by decide) kt_1_1 (fun _ _ _ => rfl) dX1_addPiece_35 (fun s5 k5 => ?_)
      refine lv_aload_n C.1 C.2.1 dX1_addPiece_38 rfl (lv_at hl 0 rfl) ?_
      refine g_getI C w fl_X1_49 sth kth (by decide) (fun _ _ _ => rfl) dX1_addPiece_39 ?_
      refine lv_iload_n C.1 C.2.1 dX1_addPiece_42 rfl (lv_at hl 2 rfl) ?_
      obtain ⟨hb, h⟩ := g_ob h
      refine g_iast C w s5 k5 hb dX1_addPiece_43 (fun H locs w => ?_)
      refine lv_aload_n C.1 C.2.1 dX1_addPiece_44 rfl (lv_at hl 0 rfl) ?_
      refine lv_dup C.1 C.2.1 dX1_addPiece_45 rfl ?_
      refine g_getI C w fl_X1_49 sth kth (by decide) (fun _ _ _ => rfl) dX1_addPiece_46 ?_
      refine lv_iconst (v := 1) C.1 C.2.1 dX1_addPiece_49 (by decide) ?_
      refine lv_iadd C.1 C.2.1 dX1_addPiece_50 ?_
      refine g_putI C w fw_X1_49 sth kth (by decide) (fun _ _ _ => rfl) rfl rfl dX1_addPiece_51 (fun H locs w => ?_)
      refine lv_aload_n C.1 C.2.1 dX1_addPiece_54 rfl (lv_at hl 0 rfl) ?_
      refine lv_dup C.1 C.2.1 dX1_addPiece_55 rfl ?_
      refine g_getI C w fl_X1_58 sth kth (by decide) (fun _ _ _ => rfl) dX1_addPiece_56 ?_
      refine lv_iload_n C.1 C.2.1 dX1_addPiece_59 rfl (lv_at hl 1 rfl) ?_
      refine lv_iadd C.1 C.2.1 dX1_addPiece_60 ?_
      refine g_putI C w fw_X1_58 sth kth (by decide) (fun _ _ _ => rfl) rfl rfl dX1_addPiece_61 (fun H locs w => ?_)
      exact g_vretV C w hr dX1_addPiece_64 h

set_option maxHeartbeats 4000000 in
set_option maxRecDepth 100000 in
theorem m_X1_addPercent {l : Launch} {D : va_G} {cA : Nat → ClassId} {B : BA} {S : Nat → Prop} {σ : GS} {th : Nat} {a1 : Int32} {o : GS} (sth : S th) (kth : kdG th = 1) (h0 : F_X1_addPercent σ th a1 = some o) : MF l yX1_addPercent cX1_addPercent 2 none 0 0 D cA B S [.ref (B.1 th), .int a1] σ o none := by
  refine MF.of (by decide +kernel) (Nat.le_of_ble_eq_true rfl) ?_
  intro p e s m args below meth c C hr w ls hl
  have hl : lv_has ls 2 [(0, .ref (B.1 th)), (1, .int a1)] := hl
  have h := h0
  unfold F_X1_addPercent at h
  refine lv_aload_n C.1 C.2.1 dX1_addPercent_0 rfl (lv_at hl 0 rfl) ?_
  refine g_getI C w fl_X1_52 sth kth (by decide) (fun _ _ _ => rfl) dX1_addPercent_1 ?_
  refine lv_aload_n C.1 C.2.1 dX1_addPercent_4 rfl (lv_at hl 0 rfl) ?_
  refine g_getR C w fl_X1_18 sth kth (by decide) kt_1_2 (fun _ _ _ => rfl) dX1_addPercent_5 (fun s1 k1 => ?_)
  refine g_alen C w s1 k1 (by decide) (by decide) dX1_addPercent_8 ?_
  refine lv_icmp_ge (tgt := 32) C.1 C.2.1 dX1_addPercent_9 (by decide) (fun hc => ?_) (fun hc => ?_)
  · have h := (if_pos hc).symm.trans h
    exact g_vretV C w hr dX1_addPercent_32 h
  · have h := (if_neg hc).symm.trans h
    refine lv_aload_n C.1 C.2.1 dX1_addPercent_12 rfl (lv_at hl 0 rfl) ?_
    refine g_getR C w fl_X1_18 sth kth (by decide) kt_1_2 (fun _ _ _ => rfl) dX1_addPercent_13 (fun s2 k2 => ?_)
    refine lv_aload_n C.1 C.2.1 dX1_addPercent_16 rfl (lv_at hl 0 rfl) ?_
    refine g_getI C w fl_X1_52 sth kth (by decide) (fun _ _ _ => rfl) dX1_addPercent_17 ?_
    refine lv_iload_n C.1 C.2.1 dX1_addPercent_20 rfl (lv_at hl 1 rfl) ?_
    obtain ⟨hb, h⟩ := g_ob h
    refine g_iast C w s2 k2 hb dX1_addPercent_21 (fun H locs w => ?_)
    refine lv_aload_n C.1 C.2.1 dX1_addPercent_22 rfl (lv_at hl 0 rfl) ?_
    refine lv_dup C.1 C.2.1 dX1_addPercent_23 rfl ?_
    refine g_getI C w fl_X1_52 sth kth (by decide) (fun _ _ _ => rfl) dX1_addPercent_24 ?_
    refine lv_iconst (v := 1) C.1 C.2.1 dX1_addPercent_27 (by decide) ?_
    refine lv_iadd C.1 C.2.1 dX1_addPercent_28 ?_
    refine g_putI C w fw_X1_52 sth kth (by decide) (fun _ _ _ => rfl) rfl rfl dX1_addPercent_29 (fun H locs w => ?_)
    exact g_vretV C w hr dX1_addPercent_32 h

set_option maxHeartbeats 4000000 in
set_option maxRecDepth 100000 in
theorem m_X1_indexOfName {l : Launch} {D : va_G} {cA : Nat → ClassId} {B : BA} {S : Nat → Prop} {σ : GS} {th : Nat} {a1 : Int64} {o : Int32} (sth : S th) (kth : kdG th = 1) (h0 : F_X1_indexOfName σ th a1 = some o) : MF l yX1_indexOfName cX1_indexOfName 4 (some .int) 0 0 D cA B S [.ref (B.1 th), .long a1] σ σ (some (.int o)) := by
  refine MF.of (by decide +kernel) (Nat.le_of_ble_eq_true rfl) ?_
  intro p e s m args below meth c C hr w ls hl
  have hl : lv_has ls 4 [(0, .ref (B.1 th)), (1, .long a1)] := hl
  have B_2 : ∀ (n2 : Nat) (v3 : Int32) (H : Heap) (locs : List Loc) (ls : Array Slot), L_X1_indexOfName_2 th a1 n2 σ v3 = some o → WS D cA B S (AB B S) σ s H locs → lv_has ls 4 [(0, .ref (B.1 th)), (1, .long a1), (3, .int v3)] → W p l e (rmF 0 0) s m args below meth c H locs 0 0 (MQ below (QF D cA B S σ (some (.int o))) args s 0 0 (AB B S)) (F0 m 2 ls []) := by
    intro n2
    induction n2 with
    | zero => intro  v3 H locs ls h; exact nomatch (show (none : Option (Int32)) = some o from h)
    | succ n2 ih2 =>
      intro  v3 H locs ls h  w hl
      unfold L_X1_indexOfName_2 at h
      refine lv_iload_n C.1 C.2.1 dX1_indexOfName_2 rfl (lv_at hl 2 rfl) ?_
      refine lv_aload_n C.1 C.2.1 dX1_indexOfName_3 rfl (lv_at hl 0 rfl) ?_
      refine g_getI C w fl_X1_55 sth kth (by decide) (fun _ _ _ => rfl) dX1_indexOfName_4 ?_
      refine lv_icmp_ge (tgt := 41) C.1 C.2.1 dX1_indexOfName_7 (by decide) (fun hc => ?_) (fun hc => ?_)
      · have h := (if_pos hc).symm.trans h
        refine lv_iconst (v := (-1)) C.1 C.2.1 dX1_indexOfName_41 (by decide) ?_
        exact g_iretP C w hr dX1_indexOfName_42 h
      · have h := (if_neg hc).symm.trans h
        refine lv_iload_n C.1 C.2.1 dX1_indexOfName_10 rfl (lv_at hl 2 rfl) ?_
        refine lv_aload_n C.1 C.2.1 dX1_indexOfName_11 rfl (lv_at hl 0 rfl) ?_
        refine g_getR C w fl_X1_23 sth kth (by decide) kt_1_3 (fun _ _ _ => rfl) dX1_indexOfName_12 (fun s1 k1 => ?_)
        refine g_alen C w s1 k1 (by decide) (by decide) dX1_indexOfName_15 ?_
        refine lv_icmp_ge (tgt := 41) C.1 C.2.1 dX1_indexOfName_16 (by decide) (fun hc => ?_) (fun hc => ?_)
        · have h := (if_pos hc).symm.trans h
          refine lv_iconst (v := (-1)) C.1 C.2.1 dX1_indexOfName_41 (by decide) ?_
          exact g_iretP C w hr dX1_indexOfName_42 h
        · have h := (if_neg hc).symm.trans h
          refine lv_aload_n C.1 C.2.1 dX1_indexOfName_19 rfl (lv_at hl 0 rfl) ?_
          refine g_getR C w fl_X1_23 sth kth (by decide) kt_1_3 (fun _ _ _ => rfl) dX1_indexOfName_20 (fun s2 k2 => ?_)
          refine lv_iload_n C.1 C.2.1 dX1_indexOfName_23 rfl (lv_at hl 2 rfl) ?_
          obtain ⟨hb, h⟩ := g_ob h
          refine g_aald C w s2 k2 (by decide) (by decide) rfl rfl (fun _ _ _ _ => rfl) kr_15 hb dX1_indexOfName_24 (fun s3 k3 => ?_)
          refine g_getL C w fl_X1_69 s3 k3 (by decide) (fun _ _ _ => rfl) dX1_indexOfName_25 ?_
          refine lv_lload_n C.1 C.2.1 dX1_indexOfName_28 rfl (lv_at hl 1 rfl) ?_
          refine W.lcmp C.1 C.2.1 dX1_indexOfName_29 ?_
          refine lv_if_ne (tgt := 35) C.1 C.2.1 dX1_indexOfName_30 (by decide) (fun hc => ?_) (fun hc => ?_)
          · have h := (if_neg hc).symm.trans h
            refine lv_iinc (k := 2) (v := v3 + 1) (lv' := [(3, .int (v3 + 1)), (0, .ref (B.1 th)), (1, .long a1)]) C.1 C.2.1 dX1_indexOfName_35 hl rfl rfl (by decide) rfl (fun ls hl => ?_)
            refine lv_goto (tgt := 2) C.1 C.2.1 dX1_indexOfName_38 (by decide) ?_
            exact ih2 _ _ _ _ h w (show lv_has ls 4 [(0, .ref (B.1 th)), (1, .long a1), (3, .int (v3 + 1))] from lv_sub hl [1, 2, 0] rfl)
          · have h := (if_pos hc).symm.trans h
            refine lv_iload_n C.1 C.2.1 dX1_indexOfName_33 rfl (lv_at hl 2 rfl) ?_
            exact g_iretP C w hr dX1_indexOfName_34 h
  have h := h0
  unfold F_X1_indexOfName at h
  refine lv_iconst (v := 0) C.1 C.2.1 dX1_indexOfName_0 (by decide) ?_
  refine lv_istore_n (lv' := [(3, .int 0), (0, .ref (B.1 th)), (1, .long a1)]) C.1 C.2.1 dX1_indexOfName_1 rfl hl (by decide) rfl (fun ls hl => ?_)
  exact B_2 _ _ _ _ _ h w (show lv_has ls 4 [(0, .ref (B.1 th)), (1, .long a1), (3, .int 0)] from lv_sub hl [1, 2, 0] rfl)

set_option maxHeartbeats 4000000 in
set_option maxRecDepth 100000 in
theorem m_X2_planned {l : Launch} {D : va_G} {cA : Nat → ClassId} {B : BA} {S : Nat → Prop} {σ : GS} {th : Nat} {a1 : Int32} {o : Int32} (sth : S th) (kth : kdG th = 2) (h0 : F_X2_planned σ th a1 = some o) : MF l yX2_planned cX2_planned 2 (some .int) 0 0 D cA B S [.ref (B.1 th), .int a1] σ σ (some (.int o)) := by
  refine MF.of (by decide +kernel) (Nat.le_of_ble_eq_true rfl) ?_
  intro p e s m args below meth c C hr w ls hl
  have hl : lv_has ls 2 [(0, .ref (B.1 th)), (1, .int a1)] := hl
  have h := h0
  unfold F_X2_planned at h
  refine lv_iload_n C.1 C.2.1 dX2_planned_0 rfl (lv_at hl 1 rfl) ?_
  refine lv_if_lt (tgt := 22) C.1 C.2.1 dX2_planned_1 (by decide) (fun hc => ?_) (fun hc => ?_)
  · have h := (if_pos hc).symm.trans h
    refine lv_iconst (v := (-1)) C.1 C.2.1 dX2_planned_22 (by decide) ?_
    exact g_iretP C w hr dX2_planned_23 h
  · have h := (if_neg hc).symm.trans h
    refine lv_iload_n C.1 C.2.1 dX2_planned_4 rfl (lv_at hl 1 rfl) ?_
    refine lv_aload_n C.1 C.2.1 dX2_planned_5 rfl (lv_at hl 0 rfl) ?_
    refine g_getR C w fl_X2_9 sth kth (by decide) kt_2_3 (fun _ _ _ => rfl) dX2_planned_6 (fun s1 k1 => ?_)
    refine g_alen C w s1 k1 (by decide) (by decide) dX2_planned_9 ?_
    refine lv_icmp_ge (tgt := 22) C.1 C.2.1 dX2_planned_10 (by decide) (fun hc => ?_) (fun hc => ?_)
    · have h := (if_pos hc).symm.trans h
      refine lv_iconst (v := (-1)) C.1 C.2.1 dX2_planned_22 (by decide) ?_
      exact g_iretP C w hr dX2_planned_23 h
    · have h := (if_neg hc).symm.trans h
      refine lv_aload_n C.1 C.2.1 dX2_planned_13 rfl (lv_at hl 0 rfl) ?_
      refine g_getR C w fl_X2_9 sth kth (by decide) kt_2_3 (fun _ _ _ => rfl) dX2_planned_14 (fun s2 k2 => ?_)
      refine lv_iload_n C.1 C.2.1 dX2_planned_17 rfl (lv_at hl 1 rfl) ?_
      obtain ⟨hb, h⟩ := g_ob h
      refine g_iald C w s2 k2 hb dX2_planned_18 ?_
      refine lv_goto (tgt := 23) C.1 C.2.1 dX2_planned_19 (by decide) ?_
      exact g_iretP C w hr dX2_planned_23 h

set_option maxHeartbeats 4000000 in
set_option maxRecDepth 100000 in
theorem m_X3_begin {l : Launch} {D : va_G} {cA : Nat → ClassId} {B : BA} {S : Nat → Prop} {σ : GS} {th : Nat} {a1 : Int32} {o : GS} (sth : S th) (kth : kdG th = 3) (h0 : F_X3_begin σ th a1 = some o) : MF l yX3_begin cX3_begin 2 none 0 0 D cA B S [.ref (B.1 th), .int a1] σ o none := by
  refine MF.of (by decide +kernel) (Nat.le_of_ble_eq_true rfl) ?_
  intro p e s m args below meth c C hr w ls hl
  have hl : lv_has ls 2 [(0, .ref (B.1 th)), (1, .int a1)] := hl
  have B_10 : ∀ (σ : GS) (u0 : Int32) (H : Heap) (locs : List Loc) (ls : Array Slot), J_X3_begin_10 th a1 σ u0 = some o → WS D cA B S (AB B S) σ s H locs → lv_has ls 2 [(0, .ref (B.1 th))] → W p l e (rmF 0 0) s m args below meth c H locs 0 0 (MQ below (QF D cA B S o none) args s 0 0 (AB B S)) (F0 m 10 ls [.int u0, .ref (B.1 th)]) := by
    intro σ u0 H locs ls h  w hl
    unfold J_X3_begin_10 at h
    refine g_putI C w fw_X3_33 sth kth (by decide) (fun _ _ _ => rfl) rfl rfl dX3_begin_10 (fun H locs w => ?_)
    refine lv_aload_n C.1 C.2.1 dX3_begin_13 rfl (lv_at hl 0 rfl) ?_
    refine lv_aload_n C.1 C.2.1 dX3_begin_14 rfl (lv_at hl 0 rfl) ?_
    refine g_getR C w fl_X3_25 sth kth (by decide) kt_3_1 (fun _ _ _ => rfl) dX3_begin_15 (fun s2 k2 => ?_)
    refine g_getI C w fl_X3_37 s2 k2 (by decide) (fun _ _ _ => rfl) dX3_begin_18 ?_
    refine g_putI C w fw_X3_42 sth kth (by decide) (fun _ _ _ => rfl) rfl rfl dX3_begin_21 (fun H locs w => ?_)
    refine lv_aload_n C.1 C.2.1 dX3_begin_24 rfl (lv_at hl 0 rfl) ?_
    refine lv_aload_n C.1 C.2.1 dX3_begin_25 rfl (lv_at hl 0 rfl) ?_
    refine g_getR C w fl_X3_25 sth kth (by decide) kt_3_1 (fun _ _ _ => rfl) dX3_begin_26 (fun s4 k4 => ?_)
    refine g_getI C w fl_X3_43 s4 k4 (by decide) (fun _ _ _ => rfl) dX3_begin_29 ?_
    refine g_putI C w fw_X3_46 sth kth (by decide) (fun _ _ _ => rfl) rfl rfl dX3_begin_32 (fun H locs w => ?_)
    refine lv_aload_n C.1 C.2.1 dX3_begin_35 rfl (lv_at hl 0 rfl) ?_
    refine lv_iconst (v := 0) C.1 C.2.1 dX3_begin_36 (by decide) ?_
    refine g_putI C w fw_X3_47 sth kth (by decide) (fun _ _ _ => rfl) rfl rfl dX3_begin_37 (fun H locs w => ?_)
    refine lv_aload_n C.1 C.2.1 dX3_begin_40 rfl (lv_at hl 0 rfl) ?_
    refine lv_iconst (v := 0) C.1 C.2.1 dX3_begin_41 (by decide) ?_
    refine g_putI C w fw_X3_50 sth kth (by decide) (fun _ _ _ => rfl) rfl rfl dX3_begin_42 (fun H locs w => ?_)
    refine lv_aload_n C.1 C.2.1 dX3_begin_45 rfl (lv_at hl 0 rfl) ?_
    refine lv_iconst (v := (-1)) C.1 C.2.1 dX3_begin_46 (by decide) ?_
    refine g_putI C w fw_X3_53 sth kth (by decide) (fun _ _ _ => rfl) rfl rfl dX3_begin_47 (fun H locs w => ?_)
    refine lv_aload_n C.1 C.2.1 dX3_begin_50 rfl (lv_at hl 0 rfl) ?_
    refine lv_iconst (v := 0) C.1 C.2.1 dX3_begin_51 (by decide) ?_
    refine g_putI C w fw_X3_56 sth kth (by decide) (fun _ _ _ => rfl) rfl rfl dX3_begin_52 (fun H locs w => ?_)
    refine lv_aload_n C.1 C.2.1 dX3_begin_55 rfl (lv_at hl 0 rfl) ?_
    refine lv_iconst (v := 0) C.1 C.2.1 dX3_begin_56 (by decide) ?_
    refine g_putI C w fw_X3_59 sth kth (by decide) (fun _ _ _ => rfl) rfl rfl dX3_begin_57 (fun H locs w => ?_)
    refine lv_aload_n C.1 C.2.1 dX3_begin_60 rfl (lv_at hl 0 rfl) ?_
    refine lv_iconst (v := 0) C.1 C.2.1 dX3_begin_61 (by decide) ?_
    refine g_putI C w fw_X3_62 sth kth (by decide) (fun _ _ _ => rfl) rfl rfl dX3_begin_62 (fun H locs w => ?_)
    refine lv_aload_n C.1 C.2.1 dX3_begin_65 rfl (lv_at hl 0 rfl) ?_
    refine lv_iconst (v := 0) C.1 C.2.1 dX3_begin_66 (by decide) ?_
    refine g_putI C w fw_X3_65 sth kth (by decide) (fun _ _ _ => rfl) rfl rfl dX3_begin_67 (fun H locs w => ?_)
    refine lv_aload_n C.1 C.2.1 dX3_begin_70 rfl (lv_at hl 0 rfl) ?_
    refine lv_iconst (v := 0) C.1 C.2.1 dX3_begin_71 (by decide) ?_
    refine g_putI C w fw_X3_68 sth kth (by decide) (fun _ _ _ => rfl) rfl rfl dX3_begin_72 (fun H locs w => ?_)
    refine lv_aload_n C.1 C.2.1 dX3_begin_75 rfl (lv_at hl 0 rfl) ?_
    refine lv_iconst (v := 0) C.1 C.2.1 dX3_begin_76 (by decide) ?_
    refine g_putI C w fw_X3_71 sth kth (by decide) (fun _ _ _ => rfl) rfl rfl dX3_begin_77 (fun H locs w => ?_)
    refine lv_aload_n C.1 C.2.1 dX3_begin_80 rfl (lv_at hl 0 rfl) ?_
    refine lv_iconst (v := 0) C.1 C.2.1 dX3_begin_81 (by decide) ?_
    refine g_putI C w fw_X3_74 sth kth (by decide) (fun _ _ _ => rfl) rfl rfl dX3_begin_82 (fun H locs w => ?_)
    refine lv_aload_n C.1 C.2.1 dX3_begin_85 rfl (lv_at hl 0 rfl) ?_
    refine lv_null C.1 C.2.1 dX3_begin_86 ?_
    refine g_putR (v := none) C w fw_X3_77 sth kth (by decide) k0_3_18 (Or.inl rfl) (fun _ _ _ => rfl) rfl rfl dX3_begin_87 (fun H locs w => ?_)
    exact g_vretV C w hr dX3_begin_90 h
  have h := h0
  unfold F_X3_begin at h
  refine lv_aload_n C.1 C.2.1 dX3_begin_0 rfl (lv_at hl 0 rfl) ?_
  refine lv_iload_n C.1 C.2.1 dX3_begin_1 rfl (lv_at hl 1 rfl) ?_
  refine lv_if_eq (tgt := 9) C.1 C.2.1 dX3_begin_2 (by decide) (fun hc => ?_) (fun hc => ?_)
  · have h := (if_pos hc).symm.trans h
    refine lv_iconst (v := 5) C.1 C.2.1 dX3_begin_9 (by decide) ?_
    exact B_10 _ _ _ _ _ h w (show lv_has ls 2 [(0, .ref (B.1 th))] from lv_sub hl [0] rfl)
  · have h := (if_neg hc).symm.trans h
    refine lv_iconst (v := 0) C.1 C.2.1 dX3_begin_5 (by decide) ?_
    refine lv_goto (tgt := 10) C.1 C.2.1 dX3_begin_6 (by decide) ?_
    exact B_10 _ _ _ _ _ h w (show lv_has ls 2 [(0, .ref (B.1 th))] from lv_sub hl [0] rfl)

set_option maxHeartbeats 4000000 in
set_option maxRecDepth 100000 in
theorem m_X3_isActive {l : Launch} {D : va_G} {cA : Nat → ClassId} {B : BA} {S : Nat → Prop} {σ : GS} {th : Nat} {o : Int32} (sth : S th) (kth : kdG th = 3) (h0 : F_X3_isActive σ th = some o) : MF l yX3_isActive cX3_isActive 1 (some .boolean) 0 0 D cA B S [.ref (B.1 th)] σ σ (some (.int o)) := by
  refine MF.of (by decide +kernel) (Nat.le_of_ble_eq_true rfl) ?_
  intro p e s m args below meth c C hr w ls hl
  have hl : lv_has ls 1 [(0, .ref (B.1 th))] := hl
  have h := h0
  unfold F_X3_isActive at h
  refine lv_aload_n C.1 C.2.1 dX3_isActive_0 rfl (lv_at hl 0 rfl) ?_
  refine g_getI C w fl_X3_33 sth kth (by decide) (fun _ _ _ => rfl) dX3_isActive_1 ?_
  refine lv_iconst (v := 3) C.1 C.2.1 dX3_isActive_4 (by decide) ?_
  refine lv_icmp_ge (tgt := 12) C.1 C.2.1 dX3_isActive_5 (by decide) (fun hc => ?_) (fun hc => ?_)
  · have h := (if_pos hc).symm.trans h
    refine lv_iconst (v := 0) C.1 C.2.1 dX3_isActive_12 (by decide) ?_
    exact g_zretP C w hr (by decide) dX3_isActive_13 h
  · have h := (if_neg hc).symm.trans h
    refine lv_iconst (v := 1) C.1 C.2.1 dX3_isActive_8 (by decide) ?_
    refine lv_goto (tgt := 13) C.1 C.2.1 dX3_isActive_9 (by decide) ?_
    exact g_zretP C w hr (by decide) dX3_isActive_13 h

set_option maxHeartbeats 4000000 in
set_option maxRecDepth 100000 in
theorem m_X3_isLoading {l : Launch} {D : va_G} {cA : Nat → ClassId} {B : BA} {S : Nat → Prop} {σ : GS} {th : Nat} {o : Int32} (sth : S th) (kth : kdG th = 3) (h0 : F_X3_isLoading σ th = some o) : MF l yX3_isLoading cX3_isLoading 1 (some .boolean) 0 0 D cA B S [.ref (B.1 th)] σ σ (some (.int o)) := by
  refine MF.of (by decide +kernel) (Nat.le_of_ble_eq_true rfl) ?_
  intro p e s m args below meth c C hr w ls hl
  have hl : lv_has ls 1 [(0, .ref (B.1 th))] := hl
  have h := h0
  unfold F_X3_isLoading at h
  refine lv_aload_n C.1 C.2.1 dX3_isLoading_0 rfl (lv_at hl 0 rfl) ?_
  refine g_getI C w fl_X3_33 sth kth (by decide) (fun _ _ _ => rfl) dX3_isLoading_1 ?_
  refine lv_iconst (v := 3) C.1 C.2.1 dX3_isLoading_4 (by decide) ?_
  refine lv_icmp_ge (tgt := 20) C.1 C.2.1 dX3_isLoading_5 (by decide) (fun hc => ?_) (fun hc => ?_)
  · have h := (if_pos hc).symm.trans h
    refine lv_iconst (v := 0) C.1 C.2.1 dX3_isLoading_20 (by decide) ?_
    exact g_zretP C w hr (by decide) dX3_isLoading_21 h
  · have h := (if_neg hc).symm.trans h
    refine lv_aload_n C.1 C.2.1 dX3_isLoading_8 rfl (lv_at hl 0 rfl) ?_
    refine g_getI C w fl_X3_53 sth kth (by decide) (fun _ _ _ => rfl) dX3_isLoading_9 ?_
    refine lv_iconst (v := (-1)) C.1 C.2.1 dX3_isLoading_12 (by decide) ?_
    refine lv_icmp_eq (tgt := 20) C.1 C.2.1 dX3_isLoading_13 (by decide) (fun hc => ?_) (fun hc => ?_)
    · have h := (if_pos hc).symm.trans h
      refine lv_iconst (v := 0) C.1 C.2.1 dX3_isLoading_20 (by decide) ?_
      exact g_zretP C w hr (by decide) dX3_isLoading_21 h
    · have h := (if_neg hc).symm.trans h
      refine lv_iconst (v := 1) C.1 C.2.1 dX3_isLoading_16 (by decide) ?_
      refine lv_goto (tgt := 21) C.1 C.2.1 dX3_isLoading_17 (by decide) ?_
      exact g_zretP C w hr (by decide) dX3_isLoading_21 h

set_option maxHeartbeats 4000000 in
set_option maxRecDepth 100000 in
theorem m_X3_hasAll {l : Launch} {D : va_G} {cA : Nat → ClassId} {B : BA} {S : Nat → Prop} {σ : GS} {th : Nat} {o : Int32} (sth : S th) (kth : kdG th = 3) (h0 : F_X3_hasAll σ th = some o) : MF l yX3_hasAll cX3_hasAll 1 (some .boolean) 0 0 D cA B S [.ref (B.1 th)] σ σ (some (.int o)) := by
  refine MF.of (by decide +kernel) (Nat.le_of_ble_eq_true rfl) ?_
  intro p e s m args below meth c C hr w ls hl
  have hl : lv_has ls 1 [(0, .ref (B.1 th))] := hl
  have h := h0
  unfold F_X3_hasAll at h
  refine lv_aload_n C.1 C.2.1 dX3_hasAll_0 rfl (lv_at hl 0 rfl) ?_
  refine g_getI C w fl_X3_50 sth kth (by decide) (fun _ _ _ => rfl) dX3_hasAll_1 ?_
  refine lv_aload_n C.1 C.2.1 dX3_hasAll_4 rfl (lv_at hl 0 rfl) ?_
  refine g_getR C w fl_X3_25 sth kth (by decide) kt_3_1 (fun _ _ _ => rfl) dX3_hasAll_5 (fun s1 k1 => ?_)
  refine g_getI C w fl_X3_84 s1 k1 (by decide) (fun _ _ _ => rfl) dX3_hasAll_8 ?_
  refine lv_icmp_lt (tgt := 18) C.1 C.2.1 dX3_hasAll_11 (by decide) (fun hc => ?_) (fun hc => ?_)
  · have h := (if_pos hc).symm.trans h
    refine lv_iconst (v := 0) C.1 C.2.1 dX3_hasAll_18 (by decide) ?_
    exact g_zretP C w hr (by decide) dX3_hasAll_19 h
  · have h := (if_neg hc).symm.trans h
    refine lv_iconst (v := 1) C.1 C.2.1 dX3_hasAll_14 (by decide) ?_
    refine lv_goto (tgt := 19) C.1 C.2.1 dX3_hasAll_15 (by decide) ?_
    exact g_zretP C w hr (by decide) dX3_hasAll_19 h

set_option maxHeartbeats 4000000 in
set_option maxRecDepth 100000 in
theorem m_X3_segmentsAsked {l : Launch} {D : va_G} {cA : Nat → ClassId} {B : BA} {S : Nat → Prop} {σ : GS} {th : Nat} {o : Int32} (sth : S th) (kth : kdG th = 3) (h0 : F_X3_segmentsAsked σ th = some o) : MF l yX3_segmentsAsked cX3_segmentsAsked 1 (some .int) 0 0 D cA B S [.ref (B.1 th)] σ σ (some (.int o)) := by
  refine MF.of (by decide +kernel) (Nat.le_of_ble_eq_true rfl) ?_
  intro p e s m args below meth c C hr w ls hl
  have hl : lv_has ls 1 [(0, .ref (B.1 th))] := hl
  have h := h0
  unfold F_X3_segmentsAsked at h
  refine lv_aload_n C.1 C.2.1 dX3_segmentsAsked_0 rfl (lv_at hl 0 rfl) ?_
  refine g_getI C w fl_X3_53 sth kth (by decide) (fun _ _ _ => rfl) dX3_segmentsAsked_1 ?_
  refine lv_iconst (v := (-1)) C.1 C.2.1 dX3_segmentsAsked_4 (by decide) ?_
  refine lv_icmp_ne (tgt := 15) C.1 C.2.1 dX3_segmentsAsked_5 (by decide) (fun hc => ?_) (fun hc => ?_)
  · have h := (if_neg hc).symm.trans h
    refine lv_aload_n C.1 C.2.1 dX3_segmentsAsked_15 rfl (lv_at hl 0 rfl) ?_
    refine g_getI C w fl_X3_50 sth kth (by decide) (fun _ _ _ => rfl) dX3_segmentsAsked_16 ?_
    refine lv_iconst (v := 1) C.1 C.2.1 dX3_segmentsAsked_19 (by decide) ?_
    refine lv_iadd C.1 C.2.1 dX3_segmentsAsked_20 ?_
    exact g_iretP C w hr dX3_segmentsAsked_21 h
  · have h := (if_pos hc).symm.trans h
    refine lv_aload_n C.1 C.2.1 dX3_segmentsAsked_8 rfl (lv_at hl 0 rfl) ?_
    refine g_getI C w fl_X3_50 sth kth (by decide) (fun _ _ _ => rfl) dX3_segmentsAsked_9 ?_
    refine lv_goto (tgt := 21) C.1 C.2.1 dX3_segmentsAsked_12 (by decide) ?_
    exact g_iretP C w hr dX3_segmentsAsked_21 h

set_option maxHeartbeats 4000000 in
set_option maxRecDepth 100000 in
theorem m_X3_segmentsToAsk {l : Launch} {D : va_G} {cA : Nat → ClassId} {B : BA} {S : Nat → Prop} {σ : GS} {th : Nat} {o : Int32} (sth : S th) (kth : kdG th = 3) (h0 : F_X3_segmentsToAsk σ th = some o) : MF l yX3_segmentsToAsk cX3_segmentsToAsk 1 (some .int) 1 20 D cA B S [.ref (B.1 th)] σ σ (some (.int o)) := by
  refine MF.of (by decide +kernel) (Nat.le_of_ble_eq_true rfl) ?_
  intro p e s m args below meth c C hr w ls hl
  have hl : lv_has ls 1 [(0, .ref (B.1 th))] := hl
  have h := h0
  unfold F_X3_segmentsToAsk at h
  refine lv_aload_n C.1 C.2.1 dX3_segmentsToAsk_0 rfl (lv_at hl 0 rfl) ?_
  refine g_getI C w fl_X3_33 sth kth (by decide) (fun _ _ _ => rfl) dX3_segmentsToAsk_1 ?_
  refine lv_iconst (v := 3) C.1 C.2.1 dX3_segmentsToAsk_4 (by decide) ?_
  refine lv_icmp_ge (tgt := 23) C.1 C.2.1 dX3_segmentsToAsk_5 (by decide) (fun hc => ?_) (fun hc => ?_)
  · have h := (if_pos hc).symm.trans h
    refine lv_iconst (v := 0) C.1 C.2.1 dX3_segmentsToAsk_23 (by decide) ?_
    exact g_iretP C w hr dX3_segmentsToAsk_24 h
  · have h := (if_neg hc).symm.trans h
    refine lv_aload_n C.1 C.2.1 dX3_segmentsToAsk_8 rfl (lv_at hl 0 rfl) ?_
    refine g_getR C w fl_X3_25 sth kth (by decide) kt_3_1 (fun _ _ _ => rfl) dX3_segmentsToAsk_9 (fun s1 k1 => ?_)
    refine g_getI C w fl_X3_84 s1 k1 (by decide) (fun _ _ _ => rfl) dX3_segmentsToAsk_12 ?_
    refine lv_aload_n C.1 C.2.1 dX3_segmentsToAsk_15 rfl (lv_at hl 0 rfl) ?_
    obtain ⟨o2, ho2, h⟩ := g_bd h
    refine g_callV (n := 0) (As := []) (rest := [.int (gI σ (rfG th 1) 4)]) C w (m_X3_segmentsAsked sth kth ho2) (cl_3).1 sth kth (by decide) ml_X3_87 iy_X3_segmentsAsked sy_X3_segmentsAsked in_X3 cy_X3_segmentsAsked ⟨rfl, by decide +kernel, by decide +kernel, by decide +kernel⟩ rfl ⟨Nat.le_of_ble_eq_true rfl, Nat.le_of_ble_eq_true rfl⟩ rfl (Nat.le_of_ble_eq_true rfl) hl.1 ⟨Nat.le_of_ble_eq_true rfl, Nat.le_of_ble_eq_true rfl⟩ dX3_segmentsToAsk_16 (fun H locs w => ?_)
    refine lv_isub C.1 C.2.1 dX3_segmentsToAsk_19 ?_
    refine lv_goto (tgt := 24) C.1 C.2.1 dX3_segmentsToAsk_20 (by decide) ?_
    exact g_iretP C w hr dX3_segmentsToAsk_24 h

set_option maxHeartbeats 4000000 in
set_option maxRecDepth 100000 in
theorem m_X3_canAsk {l : Launch} {D : va_G} {cA : Nat → ClassId} {B : BA} {S : Nat → Prop} {σ : GS} {th : Nat} {a1 : Int32} {o : Int32} (sth : S th) (kth : kdG th = 3) (h0 : F_X3_canAsk σ th a1 = some o) : MF l yX3_canAsk cX3_canAsk 2 (some .boolean) 0 0 D cA B S [.ref (B.1 th), .int a1] σ σ (some (.int o)) := by
  refine MF.of (by decide +kernel) (Nat.le_of_ble_eq_true rfl) ?_
  intro p e s m args below meth c C hr w ls hl
  have hl : lv_has ls 2 [(0, .ref (B.1 th)), (1, .int a1)] := hl
  have h := h0
  unfold F_X3_canAsk at h
  refine lv_aload_n C.1 C.2.1 dX3_canAsk_0 rfl (lv_at hl 0 rfl) ?_
  refine g_getI C w fl_X3_33 sth kth (by decide) (fun _ _ _ => rfl) dX3_canAsk_1 ?_
  refine lv_iconst (v := 3) C.1 C.2.1 dX3_canAsk_4 (by decide) ?_
  refine lv_icmp_ge (tgt := 74) C.1 C.2.1 dX3_canAsk_5 (by decide) (fun hc => ?_) (fun hc => ?_)
  · have h := (if_pos hc).symm.trans h
    refine lv_iconst (v := 0) C.1 C.2.1 dX3_canAsk_74 (by decide) ?_
    exact g_zretP C w hr (by decide) dX3_canAsk_75 h
  · have h := (if_neg hc).symm.trans h
    refine lv_iload_n C.1 C.2.1 dX3_canAsk_8 rfl (lv_at hl 1 rfl) ?_
    refine lv_aload_n C.1 C.2.1 dX3_canAsk_9 rfl (lv_at hl 0 rfl) ?_
    refine g_getR C w fl_X3_25 sth kth (by decide) kt_3_1 (fun _ _ _ => rfl) dX3_canAsk_10 (fun s1 k1 => ?_)
    refine g_getI C w fl_X3_91 s1 k1 (by decide) (fun _ _ _ => rfl) dX3_canAsk_13 ?_
    refine lv_icmp_lt (tgt := 74) C.1 C.2.1 dX3_canAsk_16 (by decide) (fun hc => ?_) (fun hc => ?_)
    · have h := (if_pos hc).symm.trans h
      refine lv_iconst (v := 0) C.1 C.2.1 dX3_canAsk_74 (by decide) ?_
      exact g_zretP C w hr (by decide) dX3_canAsk_75 h
    · have h := (if_neg hc).symm.trans h
      refine lv_aload_n C.1 C.2.1 dX3_canAsk_19 rfl (lv_at hl 0 rfl) ?_
      refine g_getI C w fl_X3_53 sth kth (by decide) (fun _ _ _ => rfl) dX3_canAsk_20 ?_
      refine lv_iconst (v := (-1)) C.1 C.2.1 dX3_canAsk_23 (by decide) ?_
      refine lv_icmp_ne (tgt := 74) C.1 C.2.1 dX3_canAsk_24 (by decide) (fun hc => ?_) (fun hc => ?_)
      · have h := (if_neg hc).symm.trans h
        refine lv_iconst (v := 0) C.1 C.2.1 dX3_canAsk_74 (by decide) ?_
        exact g_zretP C w hr (by decide) dX3_canAsk_75 h
      · have h := (if_pos hc).symm.trans h
        refine lv_aload_n C.1 C.2.1 dX3_canAsk_27 rfl (lv_at hl 0 rfl) ?_
        refine g_getI C w fl_X3_50 sth kth (by decide) (fun _ _ _ => rfl) dX3_canAsk_28 ?_
        refine lv_aload_n C.1 C.2.1 dX3_canAsk_31 rfl (lv_at hl 0 rfl) ?_
        refine g_getR C w fl_X3_25 sth kth (by decide) kt_3_1 (fun _ _ _ => rfl) dX3_canAsk_32 (fun s2 k2 => ?_)
        refine g_getI C w fl_X3_84 s2 k2 (by decide) (fun _ _ _ => rfl) dX3_canAsk_35 ?_
        refine lv_icmp_ge (tgt := 74) C.1 C.2.1 dX3_canAsk_38 (by decide) (fun hc => ?_) (fun hc => ?_)
        · have h := (if_pos hc).symm.trans h
          refine lv_iconst (v := 0) C.1 C.2.1 dX3_canAsk_74 (by decide) ?_
          exact g_zretP C w hr (by decide) dX3_canAsk_75 h
        · have h := (if_neg hc).symm.trans h
          refine lv_aload_n C.1 C.2.1 dX3_canAsk_41 rfl (lv_at hl 0 rfl) ?_
          refine g_getI C w fl_X3_47 sth kth (by decide) (fun _ _ _ => rfl) dX3_canAsk_42 ?_
          refine lv_if_eq (tgt := 70) C.1 C.2.1 dX3_canAsk_45 (by decide) (fun hc => ?_) (fun hc => ?_)
          · have h := (if_pos hc).symm.trans h
            refine lv_iconst (v := 1) C.1 C.2.1 dX3_canAsk_70 (by decide) ?_
            refine lv_goto (tgt := 75) C.1 C.2.1 dX3_canAsk_71 (by decide) ?_
            exact g_zretP C w hr (by decide) dX3_canAsk_75 h
          · have h := (if_neg hc).symm.trans h
            refine lv_aload_n C.1 C.2.1 dX3_canAsk_48 rfl (lv_at hl 0 rfl) ?_
            refine g_getI C w fl_X3_47 sth kth (by decide) (fun _ _ _ => rfl) dX3_canAsk_49 ?_
            refine lv_aload_n C.1 C.2.1 dX3_canAsk_52 rfl (lv_at hl 0 rfl) ?_
            refine g_getR C w fl_X3_21 sth kth (by decide) kt_3_0 (fun _ _ _ => rfl) dX3_canAsk_53 (fun s3 k3 => ?_)
            refine g_getI C w fl_X3_94 s3 k3 (by decide) (fun _ _ _ => rfl) dX3_canAsk_56 ?_
            refine lv_iadd C.1 C.2.1 dX3_canAsk_59 ?_
            refine lv_aload_n C.1 C.2.1 dX3_canAsk_60 rfl (lv_at hl 0 rfl) ?_
            refine g_getR C w fl_X3_21 sth kth (by decide) kt_3_0 (fun _ _ _ => rfl) dX3_canAsk_61 (fun s4 k4 => ?_)
            refine g_getI C w fl_X3_99 s4 k4 (by decide) (fun _ _ _ => rfl) dX3_canAsk_64 ?_
            refine lv_icmp_gt (tgt := 74) C.1 C.2.1 dX3_canAsk_67 (by decide) (fun hc => ?_) (fun hc => ?_)
            · have h := (if_pos hc).symm.trans h
              refine lv_iconst (v := 0) C.1 C.2.1 dX3_canAsk_74 (by decide) ?_
              exact g_zretP C w hr (by decide) dX3_canAsk_75 h
            · have h := (if_neg hc).symm.trans h
              refine lv_iconst (v := 1) C.1 C.2.1 dX3_canAsk_70 (by decide) ?_
              refine lv_goto (tgt := 75) C.1 C.2.1 dX3_canAsk_71 (by decide) ?_
              exact g_zretP C w hr (by decide) dX3_canAsk_75 h

set_option maxHeartbeats 4000000 in
set_option maxRecDepth 100000 in
theorem m_X3_byBuffer {l : Launch} {D : va_G} {cA : Nat → ClassId} {B : BA} {S : Nat → Prop} {σ : GS} {th : Nat} {o : Int32} (sth : S th) (kth : kdG th = 3) (h0 : F_X3_byBuffer σ th = some o) : MF l yX3_byBuffer cX3_byBuffer 3 (some .int) 0 0 D cA B S [.ref (B.1 th)] σ σ (some (.int o)) := by
  refine MF.of (by decide +kernel) (Nat.le_of_ble_eq_true rfl) ?_
  intro p e s m args below meth c C hr w ls hl
  have hl : lv_has ls 3 [(0, .ref (B.1 th))] := hl
  have h := h0
  unfold F_X3_byBuffer at h
  refine lv_aload_n C.1 C.2.1 dX3_byBuffer_0 rfl (lv_at hl 0 rfl) ?_
  refine g_getR C w fl_X3_25 sth kth (by decide) kt_3_1 (fun _ _ _ => rfl) dX3_byBuffer_1 (fun s1 k1 => ?_)
  refine g_getI C w fl_X3_127 s1 k1 (by decide) (fun _ _ _ => rfl) dX3_byBuffer_4 ?_
  refine lv_iconst (v := 1) C.1 C.2.1 dX3_byBuffer_7 (by decide) ?_
  refine lv_isub C.1 C.2.1 dX3_byBuffer_8 ?_
  refine lv_istore_n (lv' := [(1, .int ((gI σ (rfG th 1) 6) - 1)), (0, .ref (B.1 th))]) C.1 C.2.1 dX3_byBuffer_9 rfl hl (by decide) rfl (fun ls hl => ?_)
  refine lv_aload_n C.1 C.2.1 dX3_byBuffer_10 rfl (lv_at hl 1 rfl) ?_
  refine g_getR C w fl_X3_21 sth kth (by decide) kt_3_0 (fun _ _ _ => rfl) dX3_byBuffer_11 (fun s2 k2 => ?_)
  refine g_getI C w fl_X3_99 s2 k2 (by decide) (fun _ _ _ => rfl) dX3_byBuffer_14 ?_
  refine lv_if_le (tgt := 43) C.1 C.2.1 dX3_byBuffer_17 (by decide) (fun hc => ?_) (fun hc => ?_)
  · have h := (if_pos hc).symm.trans h
    refine lv_iconst (v := 0) C.1 C.2.1 dX3_byBuffer_43 (by decide) ?_
    refine lv_istore_n (lv' := [(2, .int 0), (1, .int ((gI σ (rfG th 1) 6) - 1)), (0, .ref (B.1 th))]) C.1 C.2.1 dX3_byBuffer_44 rfl hl (by decide) rfl (fun ls hl => ?_)
    refine lv_iload_n C.1 C.2.1 dX3_byBuffer_45 rfl (lv_at hl 0 rfl) ?_
    refine lv_iload_n C.1 C.2.1 dX3_byBuffer_46 rfl (lv_at hl 1 rfl) ?_
    refine lv_icmp_ge (tgt := 54) C.1 C.2.1 dX3_byBuffer_47 (by decide) (fun hc => ?_) (fun hc => ?_)
    · have h := (if_pos hc).symm.trans h
      refine lv_iload_n C.1 C.2.1 dX3_byBuffer_54 rfl (lv_at hl 1 rfl) ?_
      exact g_iretP C w hr dX3_byBuffer_55 h
    · have h := (if_neg hc).symm.trans h
      refine lv_iload_n C.1 C.2.1 dX3_byBuffer_50 rfl (lv_at hl 0 rfl) ?_
      refine lv_goto (tgt := 55) C.1 C.2.1 dX3_byBuffer_51 (by decide) ?_
      exact g_iretP C w hr dX3_byBuffer_55 h
  · have h := (if_neg hc).symm.trans h
    refine lv_aload_n C.1 C.2.1 dX3_byBuffer_20 rfl (lv_at hl 1 rfl) ?_
    refine g_getI C w fl_X3_47 sth kth (by decide) (fun _ _ _ => rfl) dX3_byBuffer_21 ?_
    refine lv_aload_n C.1 C.2.1 dX3_byBuffer_24 rfl (lv_at hl 1 rfl) ?_
    refine g_getR C w fl_X3_25 sth kth (by decide) kt_3_1 (fun _ _ _ => rfl) dX3_byBuffer_25 (fun s3 k3 => ?_)
    refine g_getI C w fl_X3_127 s3 k3 (by decide) (fun _ _ _ => rfl) dX3_byBuffer_28 ?_
    refine lv_imul C.1 C.2.1 dX3_byBuffer_31 ?_
    refine lv_aload_n C.1 C.2.1 dX3_byBuffer_32 rfl (lv_at hl 1 rfl) ?_
    refine g_getR C w fl_X3_21 sth kth (by decide) kt_3_0 (fun _ _ _ => rfl) dX3_byBuffer_33 (fun s4 k4 => ?_)
    refine g_getI C w fl_X3_99 s4 k4 (by decide) (fun _ _ _ => rfl) dX3_byBuffer_36 ?_
    obtain ⟨hb, h⟩ := g_ob h
    refine lv_idiv C.1 C.2.1 dX3_byBuffer_39 hb ?_
    refine lv_goto (tgt := 44) C.1 C.2.1 dX3_byBuffer_40 (by decide) ?_
    refine lv_istore_n (lv' := [(2, .int (((gI σ th 8) * (gI σ (rfG th 1) 6)) / (gI σ (rfG th 0) 6))), (1, .int ((gI σ (rfG th 1) 6) - 1)), (0, .ref (B.1 th))]) C.1 C.2.1 dX3_byBuffer_44 rfl hl (by decide) rfl (fun ls hl => ?_)
    refine lv_iload_n C.1 C.2.1 dX3_byBuffer_45 rfl (lv_at hl 0 rfl) ?_
    refine lv_iload_n C.1 C.2.1 dX3_byBuffer_46 rfl (lv_at hl 1 rfl) ?_
    refine lv_icmp_ge (tgt := 54) C.1 C.2.1 dX3_byBuffer_47 (by decide) (fun hc => ?_) (fun hc => ?_)
    · have h := (if_pos hc).symm.trans h
      refine lv_iload_n C.1 C.2.1 dX3_byBuffer_54 rfl (lv_at hl 1 rfl) ?_
      exact g_iretP C w hr dX3_byBuffer_55 h
    · have h := (if_neg hc).symm.trans h
      refine lv_iload_n C.1 C.2.1 dX3_byBuffer_50 rfl (lv_at hl 0 rfl) ?_
      refine lv_goto (tgt := 55) C.1 C.2.1 dX3_byBuffer_51 (by decide) ?_
      exact g_iretP C w hr dX3_byBuffer_55 h

set_option maxHeartbeats 4000000 in
set_option maxRecDepth 100000 in
theorem m_X3_budget {l : Launch} {D : va_G} {cA : Nat → ClassId} {B : BA} {S : Nat → Prop} {σ : GS} {th : Nat} {o : Int32} (sth : S th) (kth : kdG th = 3) (h0 : F_X3_budget σ th = some o) : MF l yX3_budget cX3_budget 1 (some .int) 0 0 D cA B S [.ref (B.1 th)] σ σ (some (.int o)) := by
  refine MF.of (by decide +kernel) (Nat.le_of_ble_eq_true rfl) ?_
  intro p e s m args below meth c C hr w ls hl
  have hl : lv_has ls 1 [(0, .ref (B.1 th))] := hl
  have h := h0
  unfold F_X3_budget at h
  refine lv_aload_n C.1 C.2.1 dX3_budget_0 rfl (lv_at hl 0 rfl) ?_
  refine g_getI C w fl_X3_74 sth kth (by decide) (fun _ _ _ => rfl) dX3_budget_1 ?_
  refine lv_aload_n C.1 C.2.1 dX3_budget_4 rfl (lv_at hl 0 rfl) ?_
  refine g_getR C w fl_X3_21 sth kth (by decide) kt_3_0 (fun _ _ _ => rfl) dX3_budget_5 (fun s1 k1 => ?_)
  refine g_getI C w fl_X3_94 s1 k1 (by decide) (fun _ _ _ => rfl) dX3_budget_8 ?_
  refine lv_imul C.1 C.2.1 dX3_budget_11 ?_
  refine lv_aload_n C.1 C.2.1 dX3_budget_12 rfl (lv_at hl 0 rfl) ?_
  refine g_getR C w fl_X3_21 sth kth (by decide) kt_3_0 (fun _ _ _ => rfl) dX3_budget_13 (fun s2 k2 => ?_)
  refine g_getI C w fl_X3_129 s2 k2 (by decide) (fun _ _ _ => rfl) dX3_budget_16 ?_
  refine lv_imul C.1 C.2.1 dX3_budget_19 ?_
  exact g_iretP C w hr dX3_budget_20 h

set_option maxHeartbeats 4000000 in
set_option maxRecDepth 100000 in
theorem m_X3_take {l : Launch} {D : va_G} {cA : Nat → ClassId} {B : BA} {S : Nat → Prop} {σ : GS} {th : Nat} {a1 : Int32} {o : GS} (sth : S th) (kth : kdG th = 3) (h0 : F_X3_take σ th a1 = some o) : MF l yX3_take cX3_take 2 none 0 0 D cA B S [.ref (B.1 th), .int a1] σ o none := by
  refine MF.of (by decide +kernel) (Nat.le_of_ble_eq_true rfl) ?_
  intro p e s m args below meth c C hr w ls hl
  have hl : lv_has ls 2 [(0, .ref (B.1 th)), (1, .int a1)] := hl
  have h := h0
  unfold F_X3_take at h
  refine lv_aload_n C.1 C.2.1 dX3_take_0 rfl (lv_at hl 0 rfl) ?_
  refine lv_dup C.1 C.2.1 dX3_take_1 rfl ?_
  refine g_getI C w fl_X3_56 sth kth (by decide) (fun _ _ _ => rfl) dX3_take_2 ?_
  refine lv_iload_n C.1 C.2.1 dX3_take_5 rfl (lv_at hl 1 rfl) ?_
  refine lv_isub C.1 C.2.1 dX3_take_6 ?_
  refine g_putI C w fw_X3_56 sth kth (by decide) (fun _ _ _ => rfl) rfl rfl dX3_take_7 (fun H locs w => ?_)
  refine lv_aload_n C.1 C.2.1 dX3_take_10 rfl (lv_at hl 0 rfl) ?_
  refine lv_dup C.1 C.2.1 dX3_take_11 rfl ?_
  refine g_getI C w fl_X3_71 sth kth (by decide) (fun _ _ _ => rfl) dX3_take_12 ?_
  refine lv_iload_n C.1 C.2.1 dX3_take_15 rfl (lv_at hl 1 rfl) ?_
  refine lv_iadd C.1 C.2.1 dX3_take_16 ?_
  refine g_putI C w fw_X3_71 sth kth (by decide) (fun _ _ _ => rfl) rfl rfl dX3_take_17 (fun H locs w => ?_)
  exact g_vretV C w hr dX3_take_20 h

set_option maxHeartbeats 4000000 in
set_option maxRecDepth 100000 in
theorem m_X3_play {l : Launch} {D : va_G} {cA : Nat → ClassId} {B : BA} {S : Nat → Prop} {σ : GS} {th : Nat} {a1 : Int32} {o : GS} (sth : S th) (kth : kdG th = 3) (h0 : F_X3_play σ th a1 = some o) : MF l yX3_play cX3_play 2 none 1 20 D cA B S [.ref (B.1 th), .int a1] σ o none := by
  refine MF.of (by decide +kernel) (Nat.le_of_ble_eq_true rfl) ?_
  intro p e s m args below meth c C hr w ls hl
  have hl : lv_has ls 2 [(0, .ref (B.1 th)), (1, .int a1)] := hl
  have B_124 : ∀ (σ : GS) (H : Heap) (locs : List Loc) (ls : Array Slot), J_X3_play_124 th a1 σ = some o → WS D cA B S (AB B S) σ s H locs → lv_has ls 2 [(0, .ref (B.1 th))] → W p l e (rmF 1 20) s m args below meth c H locs 0 0 (MQ below (QF D cA B S o none) args s 0 0 (AB B S)) (F0 m 124 ls []) := by
    intro σ H locs ls h  w hl
    unfold J_X3_play_124 at h
    refine lv_aload_n C.1 C.2.1 dX3_play_124 rfl (lv_at hl 0 rfl) ?_
    obtain ⟨o11, ho11, h⟩ := g_bd h
    refine g_callV (n := 0) (As := []) (rest := []) C w (m_X3_hasAll sth kth ho11) (cl_3).1 sth kth (by decide) ml_X3_139 iy_X3_hasAll sy_X3_hasAll in_X3 cy_X3_hasAll ⟨rfl, by decide +kernel, by decide +kernel, by decide +kernel⟩ rfl ⟨Nat.le_of_ble_eq_true rfl, Nat.le_of_ble_eq_true rfl⟩ rfl (Nat.le_of_ble_eq_true rfl) hl.1 ⟨Nat.le_of_ble_eq_true rfl, Nat.le_of_ble_eq_true rfl⟩ dX3_play_125 (fun H locs w => ?_)
    refine lv_if_eq (tgt := 143) C.1 C.2.1 dX3_play_128 (by decide) (fun hc => ?_) (fun hc => ?_)
    · have h := (if_pos hc).symm.trans h
      exact g_vretV C w hr dX3_play_143 h
    · have h := (if_neg hc).symm.trans h
      refine lv_aload_n C.1 C.2.1 dX3_play_131 rfl (lv_at hl 0 rfl) ?_
      refine g_getI C w fl_X3_47 sth kth (by decide) (fun _ _ _ => rfl) dX3_play_132 ?_
      refine lv_if_ne (tgt := 143) C.1 C.2.1 dX3_play_135 (by decide) (fun hc => ?_) (fun hc => ?_)
      · have h := (if_neg hc).symm.trans h
        exact g_vretV C w hr dX3_play_143 h
      · have h := (if_pos hc).symm.trans h
        refine lv_aload_n C.1 C.2.1 dX3_play_138 rfl (lv_at hl 0 rfl) ?_
        refine lv_iconst (v := 3) C.1 C.2.1 dX3_play_139 (by decide) ?_
        refine g_putI C w fw_X3_33 sth kth (by decide) (fun _ _ _ => rfl) rfl rfl dX3_play_140 (fun H locs w => ?_)
        exact g_vretV C w hr dX3_play_143 h
  have B_106 : ∀ (σ : GS) (H : Heap) (locs : List Loc) (ls : Array Slot), J_X3_play_106 th a1 σ = some o → WS D cA B S (AB B S) σ s H locs → lv_has ls 2 [(0, .ref (B.1 th))] → W p l e (rmF 1 20) s m args below meth c H locs 0 0 (MQ below (QF D cA B S o none) args s 0 0 (AB B S)) (F0 m 106 ls []) := by
    intro σ H locs ls h  w hl
    unfold J_X3_play_106 at h
    refine lv_aload_n C.1 C.2.1 dX3_play_106 rfl (lv_at hl 0 rfl) ?_
    refine g_getI C w fl_X3_33 sth kth (by decide) (fun _ _ _ => rfl) dX3_play_107 ?_
    refine lv_iconst (v := 2) C.1 C.2.1 dX3_play_110 (by decide) ?_
    refine lv_icmp_ne (tgt := 124) C.1 C.2.1 dX3_play_111 (by decide) (fun hc => ?_) (fun hc => ?_)
    · have h := (if_neg hc).symm.trans h
      exact B_124 _ _ _ _ h w (show lv_has ls 2 [(0, .ref (B.1 th))] from lv_sub hl [0] rfl)
    · have h := (if_pos hc).symm.trans h
      refine lv_aload_n C.1 C.2.1 dX3_play_114 rfl (lv_at hl 0 rfl) ?_
      refine lv_dup C.1 C.2.1 dX3_play_115 rfl ?_
      refine g_getI C w fl_X3_65 sth kth (by decide) (fun _ _ _ => rfl) dX3_play_116 ?_
      refine lv_iconst (v := 1) C.1 C.2.1 dX3_play_119 (by decide) ?_
      refine lv_iadd C.1 C.2.1 dX3_play_120 ?_
      refine g_putI C w fw_X3_65 sth kth (by decide) (fun _ _ _ => rfl) rfl rfl dX3_play_121 (fun H locs w => ?_)
      exact B_124 _ _ _ _ h w (show lv_has ls 2 [(0, .ref (B.1 th))] from lv_sub hl [0] rfl)
  have B_46 : ∀ (σ : GS) (H : Heap) (locs : List Loc) (ls : Array Slot), J_X3_play_46 th a1 σ = some o → WS D cA B S (AB B S) σ s H locs → lv_has ls 2 [(0, .ref (B.1 th))] → W p l e (rmF 1 20) s m args below meth c H locs 0 0 (MQ below (QF D cA B S o none) args s 0 0 (AB B S)) (F0 m 46 ls []) := by
    intro σ H locs ls h  w hl
    unfold J_X3_play_46 at h
    refine lv_aload_n C.1 C.2.1 dX3_play_46 rfl (lv_at hl 0 rfl) ?_
    refine g_getI C w fl_X3_33 sth kth (by decide) (fun _ _ _ => rfl) dX3_play_47 ?_
    refine lv_iconst (v := 1) C.1 C.2.1 dX3_play_50 (by decide) ?_
    refine lv_icmp_ne (tgt := 106) C.1 C.2.1 dX3_play_51 (by decide) (fun hc => ?_) (fun hc => ?_)
    · have h := (if_neg hc).symm.trans h
      exact B_106 _ _ _ _ h w (show lv_has ls 2 [(0, .ref (B.1 th))] from lv_sub hl [0] rfl)
    · have h := (if_pos hc).symm.trans h
      refine lv_aload_n C.1 C.2.1 dX3_play_54 rfl (lv_at hl 0 rfl) ?_
      refine g_getI C w fl_X3_47 sth kth (by decide) (fun _ _ _ => rfl) dX3_play_55 ?_
      refine lv_if_le (tgt := 84) C.1 C.2.1 dX3_play_58 (by decide) (fun hc => ?_) (fun hc => ?_)
      · have h := (if_pos hc).symm.trans h
        refine lv_aload_n C.1 C.2.1 dX3_play_84 rfl (lv_at hl 0 rfl) ?_
        obtain ⟨o5, ho5, h⟩ := g_bd h
        refine g_callV (n := 0) (As := []) (rest := []) C w (m_X3_hasAll sth kth ho5) (cl_3).1 sth kth (by decide) ml_X3_139 iy_X3_hasAll sy_X3_hasAll in_X3 cy_X3_hasAll ⟨rfl, by decide +kernel, by decide +kernel, by decide +kernel⟩ rfl ⟨Nat.le_of_ble_eq_true rfl, Nat.le_of_ble_eq_true rfl⟩ rfl (Nat.le_of_ble_eq_true rfl) hl.1 ⟨Nat.le_of_ble_eq_true rfl, Nat.le_of_ble_eq_true rfl⟩ dX3_play_85 (fun H locs w => ?_)
        refine lv_if_ne (tgt := 106) C.1 C.2.1 dX3_play_88 (by decide) (fun hc => ?_) (fun hc => ?_)
        · have h := (if_neg hc).symm.trans h
          exact B_106 _ _ _ _ h w (show lv_has ls 2 [(0, .ref (B.1 th))] from lv_sub hl [0] rfl)
        · have h := (if_pos hc).symm.trans h
          refine lv_aload_n C.1 C.2.1 dX3_play_91 rfl (lv_at hl 0 rfl) ?_
          refine lv_iconst (v := 2) C.1 C.2.1 dX3_play_92 (by decide) ?_
          refine g_putI C w fw_X3_33 sth kth (by decide) (fun _ _ _ => rfl) rfl rfl dX3_play_93 (fun H locs w => ?_)
          refine lv_aload_n C.1 C.2.1 dX3_play_96 rfl (lv_at hl 0 rfl) ?_
          refine lv_dup C.1 C.2.1 dX3_play_97 rfl ?_
          refine g_getI C w fl_X3_68 sth kth (by decide) (fun _ _ _ => rfl) dX3_play_98 ?_
          refine lv_iconst (v := 1) C.1 C.2.1 dX3_play_101 (by decide) ?_
          refine lv_iadd C.1 C.2.1 dX3_play_102 ?_
          refine g_putI C w fw_X3_68 sth kth (by decide) (fun _ _ _ => rfl) rfl rfl dX3_play_103 (fun H locs w => ?_)
          exact B_106 _ _ _ _ h w (show lv_has ls 2 [(0, .ref (B.1 th))] from lv_sub hl [0] rfl)
      · have h := (if_neg hc).symm.trans h
        refine lv_aload_n C.1 C.2.1 dX3_play_61 rfl (lv_at hl 0 rfl) ?_
        refine lv_dup C.1 C.2.1 dX3_play_62 rfl ?_
        refine g_getI C w fl_X3_47 sth kth (by decide) (fun _ _ _ => rfl) dX3_play_63 ?_
        refine lv_iconst (v := 1) C.1 C.2.1 dX3_play_66 (by decide) ?_
        refine lv_isub C.1 C.2.1 dX3_play_67 ?_
        refine g_putI C w fw_X3_47 sth kth (by decide) (fun _ _ _ => rfl) rfl rfl dX3_play_68 (fun H locs w => ?_)
        refine lv_aload_n C.1 C.2.1 dX3_play_71 rfl (lv_at hl 0 rfl) ?_
        refine lv_dup C.1 C.2.1 dX3_play_72 rfl ?_
        refine g_getI C w fl_X3_62 sth kth (by decide) (fun _ _ _ => rfl) dX3_play_73 ?_
        refine lv_iconst (v := 1) C.1 C.2.1 dX3_play_76 (by decide) ?_
        refine lv_iadd C.1 C.2.1 dX3_play_77 ?_
        refine g_putI C w fw_X3_62 sth kth (by decide) (fun _ _ _ => rfl) rfl rfl dX3_play_78 (fun H locs w => ?_)
        refine lv_goto (tgt := 106) C.1 C.2.1 dX3_play_81 (by decide) ?_
        exact B_106 _ _ _ _ h w (show lv_has ls 2 [(0, .ref (B.1 th))] from lv_sub hl [0] rfl)
  have B_41 : ∀ (σ : GS) (H : Heap) (locs : List Loc) (ls : Array Slot), J_X3_play_41 th a1 σ = some o → WS D cA B S (AB B S) σ s H locs → lv_has ls 2 [(0, .ref (B.1 th))] → W p l e (rmF 1 20) s m args below meth c H locs 0 0 (MQ below (QF D cA B S o none) args s 0 0 (AB B S)) (F0 m 41 ls []) := by
    intro σ H locs ls h  w hl
    unfold J_X3_play_41 at h
    refine lv_aload_n C.1 C.2.1 dX3_play_41 rfl (lv_at hl 0 rfl) ?_
    refine lv_iconst (v := 1) C.1 C.2.1 dX3_play_42 (by decide) ?_
    refine g_putI C w fw_X3_33 sth kth (by decide) (fun _ _ _ => rfl) rfl rfl dX3_play_43 (fun H locs w => ?_)
    exact B_46 _ _ _ _ h w (show lv_has ls 2 [(0, .ref (B.1 th))] from lv_sub hl [0] rfl)
  have h := h0
  unfold F_X3_play at h
  refine lv_aload_n C.1 C.2.1 dX3_play_0 rfl (lv_at hl 0 rfl) ?_
  refine g_getI C w fl_X3_33 sth kth (by decide) (fun _ _ _ => rfl) dX3_play_1 ?_
  refine lv_iconst (v := 3) C.1 C.2.1 dX3_play_4 (by decide) ?_
  refine lv_icmp_ge (tgt := 19) C.1 C.2.1 dX3_play_5 (by decide) (fun hc => ?_) (fun hc => ?_)
  · have h := (if_pos hc).symm.trans h
    exact g_vretV C w hr dX3_play_19 h
  · have h := (if_neg hc).symm.trans h
    refine lv_iload_n C.1 C.2.1 dX3_play_8 rfl (lv_at hl 1 rfl) ?_
    refine lv_aload_n C.1 C.2.1 dX3_play_9 rfl (lv_at hl 0 rfl) ?_
    refine g_getR C w fl_X3_25 sth kth (by decide) kt_3_1 (fun _ _ _ => rfl) dX3_play_10 (fun s1 k1 => ?_)
    refine g_getI C w fl_X3_91 s1 k1 (by decide) (fun _ _ _ => rfl) dX3_play_13 ?_
    refine lv_icmp_ge (tgt := 20) C.1 C.2.1 dX3_play_16 (by decide) (fun hc => ?_) (fun hc => ?_)
    · have h := (if_pos hc).symm.trans h
      refine lv_aload_n C.1 C.2.1 dX3_play_20 rfl (lv_at hl 0 rfl) ?_
      refine g_getI C w fl_X3_47 sth kth (by decide) (fun _ _ _ => rfl) dX3_play_21 ?_
      refine lv_aload_n C.1 C.2.1 dX3_play_24 rfl (lv_at hl 0 rfl) ?_
      refine g_getR C w fl_X3_21 sth kth (by decide) kt_3_0 (fun _ _ _ => rfl) dX3_play_25 (fun s2 k2 => ?_)
      refine g_getI C w fl_X3_136 s2 k2 (by decide) (fun _ _ _ => rfl) dX3_play_28 ?_
      refine lv_icmp_ge (tgt := 41) C.1 C.2.1 dX3_play_31 (by decide) (fun hc => ?_) (fun hc => ?_)
      · have h := (if_pos hc).symm.trans h
        exact B_41 _ _ _ _ h w (show lv_has ls 2 [(0, .ref (B.1 th))] from lv_sub hl [0] rfl)
      · have h := (if_neg hc).symm.trans h
        refine lv_aload_n C.1 C.2.1 dX3_play_34 rfl (lv_at hl 0 rfl) ?_
        obtain ⟨o3, ho3, h⟩ := g_bd h
        refine g_callV (n := 0) (As := []) (rest := []) C w (m_X3_hasAll sth kth ho3) (cl_3).1 sth kth (by decide) ml_X3_139 iy_X3_hasAll sy_X3_hasAll in_X3 cy_X3_hasAll ⟨rfl, by decide +kernel, by decide +kernel, by decide +kernel⟩ rfl ⟨Nat.le_of_ble_eq_true rfl, Nat.le_of_ble_eq_true rfl⟩ rfl (Nat.le_of_ble_eq_true rfl) hl.1 ⟨Nat.le_of_ble_eq_true rfl, Nat.le_of_ble_eq_true rfl⟩ dX3_play_35 (fun H locs w => ?_)
        refine lv_if_eq (tgt := 46) C.1 C.2.1 dX3_play_38 (by decide) (fun hc => ?_) (fun hc => ?_)
        · have h := (if_pos hc).symm.trans h
          exact B_46 _ _ _ _ h w (show lv_has ls 2 [(0, .ref (B.1 th))] from lv_sub hl [0] rfl)
        · have h := (if_neg hc).symm.trans h
          exact B_41 _ _ _ _ h w (show lv_has ls 2 [(0, .ref (B.1 th))] from lv_sub hl [0] rfl)
    · have h := (if_neg hc).symm.trans h
      exact g_vretV C w hr dX3_play_19 h

set_option maxHeartbeats 4000000 in
set_option maxRecDepth 100000 in
theorem m_X3_countSwitches {l : Launch} {D : va_G} {cA : Nat → ClassId} {B : BA} {S : Nat → Prop} {σ : GS} {th : Nat} {o : Int32} (sth : S th) (kth : kdG th = 3) (h0 : F_X3_countSwitches σ th = some o) : MF l yX3_countSwitches cX3_countSwitches 3 (some .int) 0 0 D cA B S [.ref (B.1 th)] σ σ (some (.int o)) := by
  refine MF.of (by decide +kernel) (Nat.le_of_ble_eq_true rfl) ?_
  intro p e s m args below meth c C hr w ls hl
  have hl : lv_has ls 3 [(0, .ref (B.1 th))] := hl
  have B_4 : ∀ (n4 : Nat) (v1 : Int32) (v2 : Int32) (H : Heap) (locs : List Loc) (ls : Array Slot), L_X3_countSwitches_4 th n4 σ v1 v2 = some o → WS D cA B S (AB B S) σ s H locs → lv_has ls 3 [(0, .ref (B.1 th)), (1, .int v1), (2, .int v2)] → W p l e (rmF 0 0) s m args below meth c H locs 0 0 (MQ below (QF D cA B S σ (some (.int o))) args s 0 0 (AB B S)) (F0 m 4 ls []) := by
    intro n4
    induction n4 with
    | zero => intro  v1 v2 H locs ls h; exact nomatch (show (none : Option (Int32)) = some o from h)
    | succ n4 ih4 =>
      intro  v1 v2 H locs ls h  w hl
      unfold L_X3_countSwitches_4 at h
      refine lv_iload_n C.1 C.2.1 dX3_countSwitches_4 rfl (lv_at hl 2 rfl) ?_
      refine lv_aload_n C.1 C.2.1 dX3_countSwitches_5 rfl (lv_at hl 0 rfl) ?_
      refine g_getI C w fl_X3_50 sth kth (by decide) (fun _ _ _ => rfl) dX3_countSwitches_6 ?_
      refine lv_icmp_ge (tgt := 47) C.1 C.2.1 dX3_countSwitches_9 (by decide) (fun hc => ?_) (fun hc => ?_)
      · have h := (if_pos hc).symm.trans h
        refine lv_iload_n C.1 C.2.1 dX3_countSwitches_47 rfl (lv_at hl 1 rfl) ?_
        exact g_iretP C w hr dX3_countSwitches_48 h
      · have h := (if_neg hc).symm.trans h
        refine lv_iload_n C.1 C.2.1 dX3_countSwitches_12 rfl (lv_at hl 2 rfl) ?_
        refine lv_aload_n C.1 C.2.1 dX3_countSwitches_13 rfl (lv_at hl 0 rfl) ?_
        refine g_getR C w fl_X3_9 sth kth (by decide) kt_3_2 (fun _ _ _ => rfl) dX3_countSwitches_14 (fun s1 k1 => ?_)
        refine g_alen C w s1 k1 (by decide) (by decide) dX3_countSwitches_17 ?_
        refine lv_icmp_ge (tgt := 47) C.1 C.2.1 dX3_countSwitches_18 (by decide) (fun hc => ?_) (fun hc => ?_)
        · have h := (if_pos hc).symm.trans h
          refine lv_iload_n C.1 C.2.1 dX3_countSwitches_47 rfl (lv_at hl 1 rfl) ?_
          exact g_iretP C w hr dX3_countSwitches_48 h
        · have h := (if_neg hc).symm.trans h
          refine lv_aload_n C.1 C.2.1 dX3_countSwitches_21 rfl (lv_at hl 0 rfl) ?_
          refine g_getR C w fl_X3_9 sth kth (by decide) kt_3_2 (fun _ _ _ => rfl) dX3_countSwitches_22 (fun s2 k2 => ?_)
          refine lv_iload_n C.1 C.2.1 dX3_countSwitches_25 rfl (lv_at hl 2 rfl) ?_
          obtain ⟨hb, h⟩ := g_ob h
          refine g_iald C w s2 k2 hb dX3_countSwitches_26 ?_
          refine lv_aload_n C.1 C.2.1 dX3_countSwitches_27 rfl (lv_at hl 0 rfl) ?_
          refine g_getR C w fl_X3_9 sth kth (by decide) kt_3_2 (fun _ _ _ => rfl) dX3_countSwitches_28 (fun s3 k3 => ?_)
          refine lv_iload_n C.1 C.2.1 dX3_countSwitches_31 rfl (lv_at hl 2 rfl) ?_
          refine lv_iconst (v := 1) C.1 C.2.1 dX3_countSwitches_32 (by decide) ?_
          refine lv_isub C.1 C.2.1 dX3_countSwitches_33 ?_
          obtain ⟨hb, h⟩ := g_ob h
          refine g_iald C w s3 k3 hb dX3_countSwitches_34 ?_
          refine lv_icmp_eq (tgt := 41) C.1 C.2.1 dX3_countSwitches_35 (by decide) (fun hc => ?_) (fun hc => ?_)
          · have h := (if_pos hc).symm.trans h
            refine lv_iinc (k := 2) (v := v2 + 1) (lv' := [(2, .int (v2 + 1)), (0, .ref (B.1 th)), (1, .int v1)]) C.1 C.2.1 dX3_countSwitches_41 hl rfl rfl (by decide) rfl (fun ls hl => ?_)
            refine lv_goto (tgt := 4) C.1 C.2.1 dX3_countSwitches_44 (by decide) ?_
            exact ih4 _ _ _ _ _ h w (show lv_has ls 3 [(0, .ref (B.1 th)), (1, .int v1), (2, .int (v2 + 1))] from lv_sub hl [1, 2, 0] rfl)
          · have h := (if_neg hc).symm.trans h
            refine lv_iinc (k := 1) (v := v1 + 1) (lv' := [(1, .int (v1 + 1)), (0, .ref (B.1 th)), (2, .int v2)]) C.1 C.2.1 dX3_countSwitches_38 hl rfl rfl (by decide) rfl (fun ls hl => ?_)
            refine lv_iinc (k := 2) (v := v2 + 1) (lv' := [(2, .int (v2 + 1)), (1, .int (v1 + 1)), (0, .ref (B.1 th))]) C.1 C.2.1 dX3_countSwitches_41 hl rfl rfl (by decide) rfl (fun ls hl => ?_)
            refine lv_goto (tgt := 4) C.1 C.2.1 dX3_countSwitches_44 (by decide) ?_
            exact ih4 _ _ _ _ _ h w (show lv_has ls 3 [(0, .ref (B.1 th)), (1, .int (v1 + 1)), (2, .int (v2 + 1))] from lv_sub hl [2, 1, 0] rfl)
  have h := h0
  unfold F_X3_countSwitches at h
  refine lv_iconst (v := 0) C.1 C.2.1 dX3_countSwitches_0 (by decide) ?_
  refine lv_istore_n (lv' := [(1, .int 0), (0, .ref (B.1 th))]) C.1 C.2.1 dX3_countSwitches_1 rfl hl (by decide) rfl (fun ls hl => ?_)
  refine lv_iconst (v := 1) C.1 C.2.1 dX3_countSwitches_2 (by decide) ?_
  refine lv_istore_n (lv' := [(2, .int 1), (1, .int 0), (0, .ref (B.1 th))]) C.1 C.2.1 dX3_countSwitches_3 rfl hl (by decide) rfl (fun ls hl => ?_)
  exact B_4 _ _ _ _ _ _ h w (show lv_has ls 3 [(0, .ref (B.1 th)), (1, .int 0), (2, .int 1)] from lv_sub hl [2, 1, 0] rfl)

set_option maxHeartbeats 4000000 in
set_option maxRecDepth 100000 in
theorem m_X3_sumOfQualities {l : Launch} {D : va_G} {cA : Nat → ClassId} {B : BA} {S : Nat → Prop} {σ : GS} {th : Nat} {o : Int32} (sth : S th) (kth : kdG th = 3) (h0 : F_X3_sumOfQualities σ th = some o) : MF l yX3_sumOfQualities cX3_sumOfQualities 3 (some .int) 0 0 D cA B S [.ref (B.1 th)] σ σ (some (.int o)) := by
  refine MF.of (by decide +kernel) (Nat.le_of_ble_eq_true rfl) ?_
  intro p e s m args below meth c C hr w ls hl
  have hl : lv_has ls 3 [(0, .ref (B.1 th))] := hl
  have B_4 : ∀ (n4 : Nat) (v1 : Int32) (v2 : Int32) (H : Heap) (locs : List Loc) (ls : Array Slot), L_X3_sumOfQualities_4 th n4 σ v1 v2 = some o → WS D cA B S (AB B S) σ s H locs → lv_has ls 3 [(0, .ref (B.1 th)), (1, .int v1), (2, .int v2)] → W p l e (rmF 0 0) s m args below meth c H locs 0 0 (MQ below (QF D cA B S σ (some (.int o))) args s 0 0 (AB B S)) (F0 m 4 ls []) := by
    intro n4
    induction n4 with
    | zero => intro  v1 v2 H locs ls h; exact nomatch (show (none : Option (Int32)) = some o from h)
    | succ n4 ih4 =>
      intro  v1 v2 H locs ls h  w hl
      unfold L_X3_sumOfQualities_4 at h
      refine lv_iload_n C.1 C.2.1 dX3_sumOfQualities_4 rfl (lv_at hl 2 rfl) ?_
      refine lv_aload_n C.1 C.2.1 dX3_sumOfQualities_5 rfl (lv_at hl 0 rfl) ?_
      refine g_getI C w fl_X3_50 sth kth (by decide) (fun _ _ _ => rfl) dX3_sumOfQualities_6 ?_
      refine lv_icmp_ge (tgt := 36) C.1 C.2.1 dX3_sumOfQualities_9 (by decide) (fun hc => ?_) (fun hc => ?_)
      · have h := (if_pos hc).symm.trans h
        refine lv_iload_n C.1 C.2.1 dX3_sumOfQualities_36 rfl (lv_at hl 1 rfl) ?_
        exact g_iretP C w hr dX3_sumOfQualities_37 h
      · have h := (if_neg hc).symm.trans h
        refine lv_iload_n C.1 C.2.1 dX3_sumOfQualities_12 rfl (lv_at hl 2 rfl) ?_
        refine lv_aload_n C.1 C.2.1 dX3_sumOfQualities_13 rfl (lv_at hl 0 rfl) ?_
        refine g_getR C w fl_X3_9 sth kth (by decide) kt_3_2 (fun _ _ _ => rfl) dX3_sumOfQualities_14 (fun s1 k1 => ?_)
        refine g_alen C w s1 k1 (by decide) (by decide) dX3_sumOfQualities_17 ?_
        refine lv_icmp_ge (tgt := 36) C.1 C.2.1 dX3_sumOfQualities_18 (by decide) (fun hc => ?_) (fun hc => ?_)
        · have h := (if_pos hc).symm.trans h
          refine lv_iload_n C.1 C.2.1 dX3_sumOfQualities_36 rfl (lv_at hl 1 rfl) ?_
          exact g_iretP C w hr dX3_sumOfQualities_37 h
        · have h := (if_neg hc).symm.trans h
          refine lv_iload_n C.1 C.2.1 dX3_sumOfQualities_21 rfl (lv_at hl 1 rfl) ?_
          refine lv_aload_n C.1 C.2.1 dX3_sumOfQualities_22 rfl (lv_at hl 0 rfl) ?_
          refine g_getR C w fl_X3_9 sth kth (by decide) kt_3_2 (fun _ _ _ => rfl) dX3_sumOfQualities_23 (fun s2 k2 => ?_)
          refine lv_iload_n C.1 C.2.1 dX3_sumOfQualities_26 rfl (lv_at hl 2 rfl) ?_
          obtain ⟨hb, h⟩ := g_ob h
          refine g_iald C w s2 k2 hb dX3_sumOfQualities_27 ?_
          refine lv_iadd C.1 C.2.1 dX3_sumOfQualities_28 ?_
          refine lv_istore_n (lv' := [(1, .int (v1 + (gI σ (rfG th 2) v2.toNatClampNeg))), (0, .ref (B.1 th)), (2, .int v2)]) C.1 C.2.1 dX3_sumOfQualities_29 rfl hl (by decide) rfl (fun ls hl => ?_)
          refine lv_iinc (k := 2) (v := v2 + 1) (lv' := [(2, .int (v2 + 1)), (1, .int (v1 + (gI σ (rfG th 2) v2.toNatClampNeg))), (0, .ref (B.1 th))]) C.1 C.2.1 dX3_sumOfQualities_30 hl rfl rfl (by decide) rfl (fun ls hl => ?_)
          refine lv_goto (tgt := 4) C.1 C.2.1 dX3_sumOfQualities_33 (by decide) ?_
          exact ih4 _ _ _ _ _ h w (show lv_has ls 3 [(0, .ref (B.1 th)), (1, .int (v1 + (gI σ (rfG th 2) v2.toNatClampNeg))), (2, .int (v2 + 1))] from lv_sub hl [2, 1, 0] rfl)
  have h := h0
  unfold F_X3_sumOfQualities at h
  refine lv_iconst (v := 0) C.1 C.2.1 dX3_sumOfQualities_0 (by decide) ?_
  refine lv_istore_n (lv' := [(1, .int 0), (0, .ref (B.1 th))]) C.1 C.2.1 dX3_sumOfQualities_1 rfl hl (by decide) rfl (fun ls hl => ?_)
  refine lv_iconst (v := 0) C.1 C.2.1 dX3_sumOfQualities_2 (by decide) ?_
  refine lv_istore_n (lv' := [(2, .int 0), (1, .int 0), (0, .ref (B.1 th))]) C.1 C.2.1 dX3_sumOfQualities_3 rfl hl (by decide) rfl (fun ls hl => ?_)
  exact B_4 _ _ _ _ _ _ h w (show lv_has ls 3 [(0, .ref (B.1 th)), (1, .int 0), (2, .int 0)] from lv_sub hl [2, 1, 0] rfl)

set_option maxHeartbeats 4000000 in
set_option maxRecDepth 100000 in
theorem m_X4_hasRoom {l : Launch} {D : va_G} {cA : Nat → ClassId} {B : BA} {S : Nat → Prop} {σ : GS} {th : Nat} {o : Int32} (sth : S th) (kth : kdG th = 4) (h0 : F_X4_hasRoom σ th = some o) : MF l yX4_hasRoom cX4_hasRoom 1 (some .boolean) 0 0 D cA B S [.ref (B.1 th)] σ σ (some (.int o)) := by
  refine MF.of (by decide +kernel) (Nat.le_of_ble_eq_true rfl) ?_
  intro p e s m args below meth c C hr w ls hl
  have hl : lv_has ls 1 [(0, .ref (B.1 th))] := hl
  have h := h0
  unfold F_X4_hasRoom at h
  refine lv_aload_n C.1 C.2.1 dX4_hasRoom_0 rfl (lv_at hl 0 rfl) ?_
  refine g_getI C w fl_X4_26 sth kth (by decide) (fun _ _ _ => rfl) dX4_hasRoom_1 ?_
  refine lv_bipush (v := 20) C.1 C.2.1 dX4_hasRoom_4 (by decide) ?_
  refine lv_iadd C.1 C.2.1 dX4_hasRoom_6 ?_
  refine lv_aload_n C.1 C.2.1 dX4_hasRoom_7 rfl (lv_at hl 0 rfl) ?_
  refine g_getR C w fl_X4_18 sth kth (by decide) kt_4_1 (fun _ _ _ => rfl) dX4_hasRoom_8 (fun s1 k1 => ?_)
  refine g_alen C w s1 k1 (by decide) (by decide) dX4_hasRoom_11 ?_
  refine lv_icmp_gt (tgt := 19) C.1 C.2.1 dX4_hasRoom_12 (by decide) (fun hc => ?_) (fun hc => ?_)
  · have h := (if_pos hc).symm.trans h
    refine lv_iconst (v := 0) C.1 C.2.1 dX4_hasRoom_19 (by decide) ?_
    exact g_zretP C w hr (by decide) dX4_hasRoom_20 h
  · have h := (if_neg hc).symm.trans h
    refine lv_iconst (v := 1) C.1 C.2.1 dX4_hasRoom_15 (by decide) ?_
    refine lv_goto (tgt := 20) C.1 C.2.1 dX4_hasRoom_16 (by decide) ?_
    exact g_zretP C w hr (by decide) dX4_hasRoom_20 h

set_option maxHeartbeats 4000000 in
set_option maxRecDepth 100000 in
theorem m_X4_addBytes {l : Launch} {D : va_G} {cA : Nat → ClassId} {B : BA} {S : Nat → Prop} {σ : GS} {th : Nat} {a1 : Int32} {o : GS} (sth : S th) (kth : kdG th = 4) (h0 : F_X4_addBytes σ th a1 = some o) : MF l yX4_addBytes cX4_addBytes 3 none 0 0 D cA B S [.ref (B.1 th), .int a1] σ o none := by
  refine MF.of (by decide +kernel) (Nat.le_of_ble_eq_true rfl) ?_
  intro p e s m args below meth c C hr w ls hl
  have hl : lv_has ls 3 [(0, .ref (B.1 th)), (1, .int a1)] := hl
  have B_3 : ∀ (n3 : Nat) (σ : GS) (v2 : Int32) (H : Heap) (locs : List Loc) (ls : Array Slot), L_X4_addBytes_3 th a1 n3 σ v2 = some o → WS D cA B S (AB B S) σ s H locs → lv_has ls 3 [(0, .ref (B.1 th)), (1, .int a1), (2, .int v2)] → W p l e (rmF 0 0) s m args below meth c H locs 0 0 (MQ below (QF D cA B S o none) args s 0 0 (AB B S)) (F0 m 3 ls []) := by
    intro n3
    induction n3 with
    | zero => intro σ v2 H locs ls h; exact nomatch (show (none : Option (GS)) = some o from h)
    | succ n3 ih3 =>
      intro σ v2 H locs ls h  w hl
      unfold L_X4_addBytes_3 at h
      refine lv_iload_n C.1 C.2.1 dX4_addBytes_3 rfl (lv_at hl 2 rfl) ?_
      refine lv_if_lt (tgt := 48) C.1 C.2.1 dX4_addBytes_4 (by decide) (fun hc => ?_) (fun hc => ?_)
      · have h := (if_pos hc).symm.trans h
        exact g_vretV C w hr dX4_addBytes_48 h
      · have h := (if_neg hc).symm.trans h
        refine lv_aload_n C.1 C.2.1 dX4_addBytes_7 rfl (lv_at hl 0 rfl) ?_
        refine g_getI C w fl_X4_26 sth kth (by decide) (fun _ _ _ => rfl) dX4_addBytes_8 ?_
        refine lv_aload_n C.1 C.2.1 dX4_addBytes_11 rfl (lv_at hl 0 rfl) ?_
        refine g_getR C w fl_X4_18 sth kth (by decide) kt_4_1 (fun _ _ _ => rfl) dX4_addBytes_12 (fun s1 k1 => ?_)
        refine g_alen C w s1 k1 (by decide) (by decide) dX4_addBytes_15 ?_
        refine lv_icmp_ge (tgt := 42) C.1 C.2.1 dX4_addBytes_16 (by decide) (fun hc => ?_) (fun hc => ?_)
        · have h := (if_pos hc).symm.trans h
          refine lv_iinc (k := 2) (v := v2 + (-8)) (lv' := [(2, .int (v2 + (-8))), (0, .ref (B.1 th)), (1, .int a1)]) C.1 C.2.1 dX4_addBytes_42 hl rfl rfl (by decide) rfl (fun ls hl => ?_)
          refine lv_goto (tgt := 3) C.1 C.2.1 dX4_addBytes_45 (by decide) ?_
          exact ih3 _ _ _ _ _ h w (show lv_has ls 3 [(0, .ref (B.1 th)), (1, .int a1), (2, .int (v2 + (-8)))] from lv_sub hl [1, 2, 0] rfl)
        · have h := (if_neg hc).symm.trans h
          refine lv_aload_n C.1 C.2.1 dX4_addBytes_19 rfl (lv_at hl 0 rfl) ?_
          refine g_getR C w fl_X4_18 sth kth (by decide) kt_4_1 (fun _ _ _ => rfl) dX4_addBytes_20 (fun s2 k2 => ?_)
          refine lv_aload_n C.1 C.2.1 dX4_addBytes_23 rfl (lv_at hl 0 rfl) ?_
          refine g_getI C w fl_X4_26 sth kth (by decide) (fun _ _ _ => rfl) dX4_addBytes_24 ?_
          refine lv_iload_n C.1 C.2.1 dX4_addBytes_27 rfl (lv_at hl 1 rfl) ?_
          refine lv_iload_n C.1 C.2.1 dX4_addBytes_28 rfl (lv_at hl 2 rfl) ?_
          refine lv_ishr C.1 C.2.1 dX4_addBytes_29 ?_
          refine lv_i2b C.1 C.2.1 dX4_addBytes_30 rfl ?_
          obtain ⟨hb, h⟩ := g_ob h
          refine g_bast C w s2 k2 hb dX4_addBytes_31 (fun H locs w => ?_)
          refine lv_aload_n C.1 C.2.1 dX4_addBytes_32 rfl (lv_at hl 0 rfl) ?_
          refine lv_dup C.1 C.2.1 dX4_addBytes_33 rfl ?_
          refine g_getI C w fl_X4_26 sth kth (by decide) (fun _ _ _ => rfl) dX4_addBytes_34 ?_
          refine lv_iconst (v := 1) C.1 C.2.1 dX4_addBytes_37 (by decide) ?_
          refine lv_iadd C.1 C.2.1 dX4_addBytes_38 ?_
          refine g_putI C w fw_X4_26 sth kth (by decide) (fun _ _ _ => rfl) rfl rfl dX4_addBytes_39 (fun H locs w => ?_)
          refine lv_iinc (k := 2) (v := v2 + (-8)) (lv' := [(2, .int (v2 + (-8))), (0, .ref (B.1 th)), (1, .int a1)]) C.1 C.2.1 dX4_addBytes_42 hl rfl rfl (by decide) rfl (fun ls hl => ?_)
          refine lv_goto (tgt := 3) C.1 C.2.1 dX4_addBytes_45 (by decide) ?_
          exact ih3 _ _ _ _ _ h w (show lv_has ls 3 [(0, .ref (B.1 th)), (1, .int a1), (2, .int (v2 + (-8)))] from lv_sub hl [1, 2, 0] rfl)
  have h := h0
  unfold F_X4_addBytes at h
  refine lv_bipush (v := 24) C.1 C.2.1 dX4_addBytes_0 (by decide) ?_
  refine lv_istore_n (lv' := [(2, .int 24), (0, .ref (B.1 th)), (1, .int a1)]) C.1 C.2.1 dX4_addBytes_2 rfl hl (by decide) rfl (fun ls hl => ?_)
  exact B_3 _ _ _ _ _ _ h w (show lv_has ls 3 [(0, .ref (B.1 th)), (1, .int a1), (2, .int 24)] from lv_sub hl [1, 2, 0] rfl)

set_option maxHeartbeats 4000000 in
set_option maxRecDepth 100000 in
theorem m_X4_fail {l : Launch} {D : va_G} {cA : Nat → ClassId} {B : BA} {S : Nat → Prop} {σ : GS} {th : Nat} {a1 : Int32} {o : GS} (sth : S th) (kth : kdG th = 4) (h0 : F_X4_fail σ th a1 = some o) : MF l yX4_fail cX4_fail 2 none 0 0 D cA B S [.ref (B.1 th), .int a1] σ o none := by
  refine MF.of (by decide +kernel) (Nat.le_of_ble_eq_true rfl) ?_
  intro p e s m args below meth c C hr w ls hl
  have hl : lv_has ls 2 [(0, .ref (B.1 th)), (1, .int a1)] := hl
  have h := h0
  unfold F_X4_fail at h
  refine lv_aload_n C.1 C.2.1 dX4_fail_0 rfl (lv_at hl 0 rfl) ?_
  refine g_getI C w fl_X4_32 sth kth (by decide) (fun _ _ _ => rfl) dX4_fail_1 ?_
  refine lv_if_ne (tgt := 20) C.1 C.2.1 dX4_fail_4 (by decide) (fun hc => ?_) (fun hc => ?_)
  · have h := (if_neg hc).symm.trans h
    exact g_vretV C w hr dX4_fail_20 h
  · have h := (if_pos hc).symm.trans h
    refine lv_aload_n C.1 C.2.1 dX4_fail_7 rfl (lv_at hl 0 rfl) ?_
    refine lv_iload_n C.1 C.2.1 dX4_fail_8 rfl (lv_at hl 1 rfl) ?_
    refine g_putI C w fw_X4_32 sth kth (by decide) (fun _ _ _ => rfl) rfl rfl dX4_fail_9 (fun H locs w => ?_)
    refine lv_aload_n C.1 C.2.1 dX4_fail_12 rfl (lv_at hl 0 rfl) ?_
    refine lv_aload_n C.1 C.2.1 dX4_fail_13 rfl (lv_at hl 0 rfl) ?_
    refine g_getI C w fl_X4_56 sth kth (by decide) (fun _ _ _ => rfl) dX4_fail_14 ?_
    refine g_putI C w fw_X4_22 sth kth (by decide) (fun _ _ _ => rfl) rfl rfl dX4_fail_17 (fun H locs w => ?_)
    exact g_vretV C w hr dX4_fail_20 h

