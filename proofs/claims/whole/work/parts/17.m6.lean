set_option maxHeartbeats 4000000 in
set_option maxRecDepth 100000 in
theorem m_X8_sizeAt {l : Launch} {D : va_G} {cA : Nat → ClassId} {B : Nat} {S : Nat → Prop} {σ : GS} {th : Nat} {a1 : Int32} {a2 : Int32} {a3 : Int32} {o : Int32} (sth : S th) (kth : kdG th = 8) (h0 : F_X8_sizeAt σ th a1 a2 a3 = some o) : MF l yX8_sizeAt cX8_sizeAt 7 (some .int) 1 22 D cA B S [.ref (B + th), .int a1, .int a2, .int a3] σ σ (some (.int o)) := by
  refine MF.of (by decide +kernel) (Nat.le_of_ble_eq_true rfl) ?_
  intro p e s m args below meth c C hr w ls hl
  have hl : lv_has ls 7 [(0, .ref (B + th)), (1, .int a1), (2, .int a2), (3, .int a3)] := hl
  have B_31 : ∀ (u0 : Int32) (H : Heap) (locs : List Loc) (ls : Array Slot), J_X8_sizeAt_31 th a1 a2 a3 σ u0 = some o → WS D cA B S σ s H locs → lv_has ls 7 [(0, .ref (B + th)), (1, .int a1), (3, .int a3)] → W p l e (rmF 1 22) s m args below meth c H locs 0 0 (MQ below (QF D cA B S σ (some (.int o))) args s 0 0 (AB B S)) (F0 m 31 ls [.int u0]) := by
    intro  u0 H locs ls h  w hl
    unfold J_X8_sizeAt_31 at h
    refine lv_istore (lv' := [(5, .int u0), (0, .ref (B + th)), (1, .int a1), (3, .int a3)]) C.1 C.2.1 dX8_sizeAt_31 hl (by decide) rfl (fun ls hl => ?_)
    refine lv_aload_n C.1 C.2.1 dX8_sizeAt_33 rfl (lv_at hl 1 rfl) ?_
    refine lv_iload_n C.1 C.2.1 dX8_sizeAt_34 rfl (lv_at hl 2 rfl) ?_
    refine lv_iconst (v := 3) C.1 C.2.1 dX8_sizeAt_35 (by decide) ?_
    refine lv_iload_n C.1 C.2.1 dX8_sizeAt_36 rfl (lv_at hl 3 rfl) ?_
    refine lv_iadd C.1 C.2.1 dX8_sizeAt_37 ?_
    obtain ⟨o3, ho3, h⟩ := g_bd h
    refine g_callV (n := 2) (As := [.int a1, .int (3 + a3)]) (rest := []) C w (m_X8_toldOf sth kth ho3) (cl_8).1 sth kth (by decide) ml_X8_213 iy_X8_toldOf sy_X8_toldOf in_X8 cy_X8_toldOf ⟨rfl, by decide +kernel, by decide +kernel, by decide +kernel⟩ rfl ⟨Nat.le_of_ble_eq_true rfl, Nat.le_of_ble_eq_true rfl⟩ rfl (Nat.le_of_ble_eq_true rfl) hl.1 ⟨Nat.le_of_ble_eq_true rfl, Nat.le_of_ble_eq_true rfl⟩ dX8_sizeAt_38 (fun H locs w => ?_)
    refine lv_iload C.1 C.2.1 dX8_sizeAt_41 (lv_at hl 0 rfl) ?_
    refine lv_imul C.1 C.2.1 dX8_sizeAt_43 ?_
    refine lv_bipush (v := 100) C.1 C.2.1 dX8_sizeAt_44 (by decide) ?_
    refine lv_idiv C.1 C.2.1 dX8_sizeAt_46 (by decide) ?_
    refine lv_istore (lv' := [(6, .int ((o3 * u0) / 100)), (5, .int u0), (0, .ref (B + th)), (1, .int a1), (3, .int a3)]) C.1 C.2.1 dX8_sizeAt_47 hl (by decide) rfl (fun ls hl => ?_)
    refine lv_iload C.1 C.2.1 dX8_sizeAt_49 (lv_at hl 0 rfl) ?_
    refine lv_iconst (v := 1) C.1 C.2.1 dX8_sizeAt_51 (by decide) ?_
    refine lv_icmp_ge (tgt := 59) C.1 C.2.1 dX8_sizeAt_52 (by decide) (fun hc => ?_) (fun hc => ?_)
    · have h := (if_pos hc).symm.trans h
      refine lv_iload C.1 C.2.1 dX8_sizeAt_59 (lv_at hl 0 rfl) ?_
      exact g_iretP C w hr dX8_sizeAt_61 h
    · have h := (if_neg hc).symm.trans h
      refine lv_iconst (v := 1) C.1 C.2.1 dX8_sizeAt_55 (by decide) ?_
      refine lv_goto (tgt := 61) C.1 C.2.1 dX8_sizeAt_56 (by decide) ?_
      exact g_iretP C w hr dX8_sizeAt_61 h
  have h := h0
  unfold F_X8_sizeAt at h
  refine lv_aload_n C.1 C.2.1 dX8_sizeAt_0 rfl (lv_at hl 0 rfl) ?_
  refine g_getR C w fl_X8_7 sth kth (by decide) kt_8_1 (fun _ _ _ => rfl) dX8_sizeAt_1 (fun s1 k1 => ?_)
  refine lv_bipush (v := 6) C.1 C.2.1 dX8_sizeAt_4 (by decide) ?_
  obtain ⟨hb, h⟩ := g_ob h
  refine g_iald C w s1 k1 hb dX8_sizeAt_6 ?_
  refine lv_istore (lv' := [(4, .int (gI σ (rfG th 1) (6 : Int32).toNatClampNeg)), (0, .ref (B + th)), (1, .int a1), (2, .int a2), (3, .int a3)]) C.1 C.2.1 dX8_sizeAt_7 hl (by decide) rfl (fun ls hl => ?_)
  refine lv_iload C.1 C.2.1 dX8_sizeAt_9 (lv_at hl 0 rfl) ?_
  refine lv_if_ne (tgt := 19) C.1 C.2.1 dX8_sizeAt_11 (by decide) (fun hc => ?_) (fun hc => ?_)
  · have h := (if_neg hc).symm.trans h
    refine lv_aload_n C.1 C.2.1 dX8_sizeAt_19 rfl (lv_at hl 1 rfl) ?_
    refine g_getR C w fl_X8_7 sth kth (by decide) kt_8_1 (fun _ _ _ => rfl) dX8_sizeAt_20 (fun s2 k2 => ?_)
    refine lv_bipush (v := 15) C.1 C.2.1 dX8_sizeAt_23 (by decide) ?_
    refine lv_iload_n C.1 C.2.1 dX8_sizeAt_25 rfl (lv_at hl 3 rfl) ?_
    refine lv_iload C.1 C.2.1 dX8_sizeAt_26 (lv_at hl 0 rfl) ?_
    obtain ⟨hb, h⟩ := g_ob h
    refine lv_irem C.1 C.2.1 dX8_sizeAt_28 hb ?_
    refine lv_iadd C.1 C.2.1 dX8_sizeAt_29 ?_
    obtain ⟨hb, h⟩ := g_ob h
    refine g_iald C w s2 k2 hb dX8_sizeAt_30 ?_
    exact B_31 _ _ _ _ h w (show lv_has ls 7 [(0, .ref (B + th)), (1, .int a1), (3, .int a3)] from lv_sub hl [1, 2, 4] rfl)
  · have h := (if_pos hc).symm.trans h
    refine lv_bipush (v := 100) C.1 C.2.1 dX8_sizeAt_14 (by decide) ?_
    refine lv_goto (tgt := 31) C.1 C.2.1 dX8_sizeAt_16 (by decide) ?_
    exact B_31 _ _ _ _ h w (show lv_has ls 7 [(0, .ref (B + th)), (1, .int a1), (3, .int a3)] from lv_sub hl [1, 2, 4] rfl)

set_option maxHeartbeats 4000000 in
set_option maxRecDepth 100000 in
theorem m_X8_hasJoined {l : Launch} {D : va_G} {cA : Nat → ClassId} {B : Nat} {S : Nat → Prop} {σ : GS} {th : Nat} {a1 : Int32} {o : Int32} (sth : S th) (kth : kdG th = 8) (h0 : F_X8_hasJoined σ th a1 = some o) : MF l yX8_hasJoined cX8_hasJoined 2 (some .boolean) 1 22 D cA B S [.ref (B + th), .int a1] σ σ (some (.int o)) := by
  refine MF.of (by decide +kernel) (Nat.le_of_ble_eq_true rfl) ?_
  intro p e s m args below meth c C hr w ls hl
  have hl : lv_has ls 2 [(0, .ref (B + th)), (1, .int a1)] := hl
  have h := h0
  unfold F_X8_hasJoined at h
  refine lv_aload_n C.1 C.2.1 dX8_hasJoined_0 rfl (lv_at hl 0 rfl) ?_
  refine g_getR C w fl_X8_17 sth kth (by decide) kt_8_3 (fun _ _ _ => rfl) dX8_hasJoined_1 (fun s1 k1 => ?_)
  refine lv_iconst (v := 0) C.1 C.2.1 dX8_hasJoined_4 (by decide) ?_
  obtain ⟨hb, h⟩ := g_ob h
  refine g_iald C w s1 k1 hb dX8_hasJoined_5 ?_
  refine lv_aload_n C.1 C.2.1 dX8_hasJoined_6 rfl (lv_at hl 0 rfl) ?_
  refine lv_iload_n C.1 C.2.1 dX8_hasJoined_7 rfl (lv_at hl 1 rfl) ?_
  refine lv_iconst (v := 2) C.1 C.2.1 dX8_hasJoined_8 (by decide) ?_
  obtain ⟨o2, ho2, h⟩ := g_bd h
  refine g_callV (n := 2) (As := [.int a1, .int 2]) (rest := [.int (gI σ (rfG th 3) (0 : Int32).toNatClampNeg)]) C w (m_X8_toldOf sth kth ho2) (cl_8).1 sth kth (by decide) ml_X8_213 iy_X8_toldOf sy_X8_toldOf in_X8 cy_X8_toldOf ⟨rfl, by decide +kernel, by decide +kernel, by decide +kernel⟩ rfl ⟨Nat.le_of_ble_eq_true rfl, Nat.le_of_ble_eq_true rfl⟩ rfl (Nat.le_of_ble_eq_true rfl) hl.1 ⟨Nat.le_of_ble_eq_true rfl, Nat.le_of_ble_eq_true rfl⟩ dX8_hasJoined_9 (fun H locs w => ?_)
  refine lv_icmp_lt (tgt := 19) C.1 C.2.1 dX8_hasJoined_12 (by decide) (fun hc => ?_) (fun hc => ?_)
  · have h := (if_pos hc).symm.trans h
    refine lv_iconst (v := 0) C.1 C.2.1 dX8_hasJoined_19 (by decide) ?_
    exact g_zretP C w hr (by decide) dX8_hasJoined_20 h
  · have h := (if_neg hc).symm.trans h
    refine lv_iconst (v := 1) C.1 C.2.1 dX8_hasJoined_15 (by decide) ?_
    refine lv_goto (tgt := 20) C.1 C.2.1 dX8_hasJoined_16 (by decide) ?_
    exact g_zretP C w hr (by decide) dX8_hasJoined_20 h

set_option maxHeartbeats 4000000 in
set_option maxRecDepth 100000 in
theorem m_X8_hasAll {l : Launch} {D : va_G} {cA : Nat → ClassId} {B : Nat} {S : Nat → Prop} {σ : GS} {th : Nat} {a1 : Int32} {o : Int32} (sth : S th) (kth : kdG th = 8) (h0 : F_X8_hasAll σ th a1 = some o) : MF l yX8_hasAll cX8_hasAll 2 (some .boolean) 1 22 D cA B S [.ref (B + th), .int a1] σ σ (some (.int o)) := by
  refine MF.of (by decide +kernel) (Nat.le_of_ble_eq_true rfl) ?_
  intro p e s m args below meth c C hr w ls hl
  have hl : lv_has ls 2 [(0, .ref (B + th)), (1, .int a1)] := hl
  have h := h0
  unfold F_X8_hasAll at h
  refine lv_aload_n C.1 C.2.1 dX8_hasAll_0 rfl (lv_at hl 0 rfl) ?_
  refine lv_iload_n C.1 C.2.1 dX8_hasAll_1 rfl (lv_at hl 1 rfl) ?_
  refine lv_iconst (v := 2) C.1 C.2.1 dX8_hasAll_2 (by decide) ?_
  obtain ⟨o1, ho1, h⟩ := g_bd h
  refine g_callV (n := 2) (As := [.int a1, .int 2]) (rest := []) C w (m_X8_of sth kth ho1) (cl_8).1 sth kth (by decide) ml_X8_217 iy_X8_of sy_X8_of in_X8 cy_X8_of ⟨rfl, by decide +kernel, by decide +kernel, by decide +kernel⟩ rfl ⟨Nat.le_of_ble_eq_true rfl, Nat.le_of_ble_eq_true rfl⟩ rfl (Nat.le_of_ble_eq_true rfl) hl.1 ⟨Nat.le_of_ble_eq_true rfl, Nat.le_of_ble_eq_true rfl⟩ dX8_hasAll_3 (fun H locs w => ?_)
  refine lv_aload_n C.1 C.2.1 dX8_hasAll_6 rfl (lv_at hl 0 rfl) ?_
  refine lv_iload_n C.1 C.2.1 dX8_hasAll_7 rfl (lv_at hl 1 rfl) ?_
  refine lv_iconst (v := 0) C.1 C.2.1 dX8_hasAll_8 (by decide) ?_
  obtain ⟨o2, ho2, h⟩ := g_bd h
  refine g_callV (n := 2) (As := [.int a1, .int 0]) (rest := [.int o1]) C w (m_X8_toldOf sth kth ho2) (cl_8).1 sth kth (by decide) ml_X8_213 iy_X8_toldOf sy_X8_toldOf in_X8 cy_X8_toldOf ⟨rfl, by decide +kernel, by decide +kernel, by decide +kernel⟩ rfl ⟨Nat.le_of_ble_eq_true rfl, Nat.le_of_ble_eq_true rfl⟩ rfl (Nat.le_of_ble_eq_true rfl) hl.1 ⟨Nat.le_of_ble_eq_true rfl, Nat.le_of_ble_eq_true rfl⟩ dX8_hasAll_9 (fun H locs w => ?_)
  refine lv_icmp_ne (tgt := 19) C.1 C.2.1 dX8_hasAll_12 (by decide) (fun hc => ?_) (fun hc => ?_)
  · have h := (if_neg hc).symm.trans h
    refine lv_iconst (v := 0) C.1 C.2.1 dX8_hasAll_19 (by decide) ?_
    exact g_zretP C w hr (by decide) dX8_hasAll_20 h
  · have h := (if_pos hc).symm.trans h
    refine lv_iconst (v := 1) C.1 C.2.1 dX8_hasAll_15 (by decide) ?_
    refine lv_goto (tgt := 20) C.1 C.2.1 dX8_hasAll_16 (by decide) ?_
    exact g_zretP C w hr (by decide) dX8_hasAll_20 h

set_option maxHeartbeats 4000000 in
set_option maxRecDepth 100000 in
theorem m_X8_askedMany {l : Launch} {D : va_G} {cA : Nat → ClassId} {B : Nat} {S : Nat → Prop} {σ : GS} {th : Nat} {a1 : Int32} {o : Int32} (sth : S th) (kth : kdG th = 8) (h0 : F_X8_askedMany σ th a1 = some o) : MF l yX8_askedMany cX8_askedMany 2 (some .int) 1 22 D cA B S [.ref (B + th), .int a1] σ σ (some (.int o)) := by
  refine MF.of (by decide +kernel) (Nat.le_of_ble_eq_true rfl) ?_
  intro p e s m args below meth c C hr w ls hl
  have hl : lv_has ls 2 [(0, .ref (B + th)), (1, .int a1)] := hl
  have h := h0
  unfold F_X8_askedMany at h
  refine lv_aload_n C.1 C.2.1 dX8_askedMany_0 rfl (lv_at hl 0 rfl) ?_
  refine lv_iload_n C.1 C.2.1 dX8_askedMany_1 rfl (lv_at hl 1 rfl) ?_
  refine lv_iconst (v := 2) C.1 C.2.1 dX8_askedMany_2 (by decide) ?_
  obtain ⟨o1, ho1, h⟩ := g_bd h
  refine g_callV (n := 2) (As := [.int a1, .int 2]) (rest := []) C w (m_X8_of sth kth ho1) (cl_8).1 sth kth (by decide) ml_X8_217 iy_X8_of sy_X8_of in_X8 cy_X8_of ⟨rfl, by decide +kernel, by decide +kernel, by decide +kernel⟩ rfl ⟨Nat.le_of_ble_eq_true rfl, Nat.le_of_ble_eq_true rfl⟩ rfl (Nat.le_of_ble_eq_true rfl) hl.1 ⟨Nat.le_of_ble_eq_true rfl, Nat.le_of_ble_eq_true rfl⟩ dX8_askedMany_3 (fun H locs w => ?_)
  refine lv_aload_n C.1 C.2.1 dX8_askedMany_6 rfl (lv_at hl 0 rfl) ?_
  refine lv_iload_n C.1 C.2.1 dX8_askedMany_7 rfl (lv_at hl 1 rfl) ?_
  refine lv_iconst (v := 3) C.1 C.2.1 dX8_askedMany_8 (by decide) ?_
  obtain ⟨o2, ho2, h⟩ := g_bd h
  refine g_callV (n := 2) (As := [.int a1, .int 3]) (rest := [.int o1]) C w (m_X8_of sth kth ho2) (cl_8).1 sth kth (by decide) ml_X8_217 iy_X8_of sy_X8_of in_X8 cy_X8_of ⟨rfl, by decide +kernel, by decide +kernel, by decide +kernel⟩ rfl ⟨Nat.le_of_ble_eq_true rfl, Nat.le_of_ble_eq_true rfl⟩ rfl (Nat.le_of_ble_eq_true rfl) hl.1 ⟨Nat.le_of_ble_eq_true rfl, Nat.le_of_ble_eq_true rfl⟩ dX8_askedMany_9 (fun H locs w => ?_)
  refine lv_iconst (v := (-1)) C.1 C.2.1 dX8_askedMany_12 (by decide) ?_
  refine lv_icmp_ne (tgt := 20) C.1 C.2.1 dX8_askedMany_13 (by decide) (fun hc => ?_) (fun hc => ?_)
  · have h := (if_neg hc).symm.trans h
    refine lv_iconst (v := 1) C.1 C.2.1 dX8_askedMany_20 (by decide) ?_
    refine lv_iadd C.1 C.2.1 dX8_askedMany_21 ?_
    exact g_iretP C w hr dX8_askedMany_22 h
  · have h := (if_pos hc).symm.trans h
    refine lv_iconst (v := 0) C.1 C.2.1 dX8_askedMany_16 (by decide) ?_
    refine lv_goto (tgt := 21) C.1 C.2.1 dX8_askedMany_17 (by decide) ?_
    refine lv_iadd C.1 C.2.1 dX8_askedMany_21 ?_
    exact g_iretP C w hr dX8_askedMany_22 h

set_option maxHeartbeats 4000000 in
set_option maxRecDepth 100000 in
theorem m_X8_byBuffer {l : Launch} {D : va_G} {cA : Nat → ClassId} {B : Nat} {S : Nat → Prop} {σ : GS} {th : Nat} {a1 : Int32} {o : Int32} (sth : S th) (kth : kdG th = 8) (h0 : F_X8_byBuffer σ th a1 = some o) : MF l yX8_byBuffer cX8_byBuffer 4 (some .int) 1 22 D cA B S [.ref (B + th), .int a1] σ σ (some (.int o)) := by
  refine MF.of (by decide +kernel) (Nat.le_of_ble_eq_true rfl) ?_
  intro p e s m args below meth c C hr w ls hl
  have hl : lv_has ls 4 [(0, .ref (B + th)), (1, .int a1)] := hl
  have h := h0
  unfold F_X8_byBuffer at h
  refine lv_aload_n C.1 C.2.1 dX8_byBuffer_0 rfl (lv_at hl 0 rfl) ?_
  refine lv_iload_n C.1 C.2.1 dX8_byBuffer_1 rfl (lv_at hl 1 rfl) ?_
  refine lv_iconst (v := 1) C.1 C.2.1 dX8_byBuffer_2 (by decide) ?_
  obtain ⟨o1, ho1, h⟩ := g_bd h
  refine g_callV (n := 2) (As := [.int a1, .int 1]) (rest := []) C w (m_X8_of sth kth ho1) (cl_8).1 sth kth (by decide) ml_X8_217 iy_X8_of sy_X8_of in_X8 cy_X8_of ⟨rfl, by decide +kernel, by decide +kernel, by decide +kernel⟩ rfl ⟨Nat.le_of_ble_eq_true rfl, Nat.le_of_ble_eq_true rfl⟩ rfl (Nat.le_of_ble_eq_true rfl) hl.1 ⟨Nat.le_of_ble_eq_true rfl, Nat.le_of_ble_eq_true rfl⟩ dX8_byBuffer_3 (fun H locs w => ?_)
  refine lv_aload_n C.1 C.2.1 dX8_byBuffer_6 rfl (lv_at hl 0 rfl) ?_
  refine lv_iload_n C.1 C.2.1 dX8_byBuffer_7 rfl (lv_at hl 1 rfl) ?_
  refine lv_iconst (v := 1) C.1 C.2.1 dX8_byBuffer_8 (by decide) ?_
  obtain ⟨o2, ho2, h⟩ := g_bd h
  refine g_callV (n := 2) (As := [.int a1, .int 1]) (rest := [.int o1]) C w (m_X8_toldOf sth kth ho2) (cl_8).1 sth kth (by decide) ml_X8_213 iy_X8_toldOf sy_X8_toldOf in_X8 cy_X8_toldOf ⟨rfl, by decide +kernel, by decide +kernel, by decide +kernel⟩ rfl ⟨Nat.le_of_ble_eq_true rfl, Nat.le_of_ble_eq_true rfl⟩ rfl (Nat.le_of_ble_eq_true rfl) hl.1 ⟨Nat.le_of_ble_eq_true rfl, Nat.le_of_ble_eq_true rfl⟩ dX8_byBuffer_9 (fun H locs w => ?_)
  refine lv_imul C.1 C.2.1 dX8_byBuffer_12 ?_
  refine lv_aload_n C.1 C.2.1 dX8_byBuffer_13 rfl (lv_at hl 0 rfl) ?_
  refine g_getR C w fl_X8_7 sth kth (by decide) kt_8_1 (fun _ _ _ => rfl) dX8_byBuffer_14 (fun s3 k3 => ?_)
  refine lv_iconst (v := 2) C.1 C.2.1 dX8_byBuffer_17 (by decide) ?_
  obtain ⟨hb, h⟩ := g_ob h
  refine g_iald C w s3 k3 hb dX8_byBuffer_18 ?_
  obtain ⟨hb, h⟩ := g_ob h
  refine lv_idiv C.1 C.2.1 dX8_byBuffer_19 hb ?_
  refine lv_istore_n (lv' := [(2, .int ((o1 * o2) / (gI σ (rfG th 1) (2 : Int32).toNatClampNeg))), (0, .ref (B + th)), (1, .int a1)]) C.1 C.2.1 dX8_byBuffer_20 rfl hl (by decide) rfl (fun ls hl => ?_)
  refine lv_aload_n C.1 C.2.1 dX8_byBuffer_21 rfl (lv_at hl 1 rfl) ?_
  refine lv_iload_n C.1 C.2.1 dX8_byBuffer_22 rfl (lv_at hl 2 rfl) ?_
  refine lv_iconst (v := 1) C.1 C.2.1 dX8_byBuffer_23 (by decide) ?_
  obtain ⟨o4, ho4, h⟩ := g_bd h
  refine g_callV (n := 2) (As := [.int a1, .int 1]) (rest := []) C w (m_X8_toldOf sth kth ho4) (cl_8).1 sth kth (by decide) ml_X8_213 iy_X8_toldOf sy_X8_toldOf in_X8 cy_X8_toldOf ⟨rfl, by decide +kernel, by decide +kernel, by decide +kernel⟩ rfl ⟨Nat.le_of_ble_eq_true rfl, Nat.le_of_ble_eq_true rfl⟩ rfl (Nat.le_of_ble_eq_true rfl) hl.1 ⟨Nat.le_of_ble_eq_true rfl, Nat.le_of_ble_eq_true rfl⟩ dX8_byBuffer_24 (fun H locs w => ?_)
  refine lv_iconst (v := 1) C.1 C.2.1 dX8_byBuffer_27 (by decide) ?_
  refine lv_isub C.1 C.2.1 dX8_byBuffer_28 ?_
  refine lv_istore_n (lv' := [(3, .int (o4 - 1)), (2, .int ((o1 * o2) / (gI σ (rfG th 1) (2 : Int32).toNatClampNeg))), (0, .ref (B + th)), (1, .int a1)]) C.1 C.2.1 dX8_byBuffer_29 rfl hl (by decide) rfl (fun ls hl => ?_)
  refine lv_iload_n C.1 C.2.1 dX8_byBuffer_30 rfl (lv_at hl 1 rfl) ?_
  refine lv_iload_n C.1 C.2.1 dX8_byBuffer_31 rfl (lv_at hl 0 rfl) ?_
  refine lv_icmp_ge (tgt := 39) C.1 C.2.1 dX8_byBuffer_32 (by decide) (fun hc => ?_) (fun hc => ?_)
  · have h := (if_pos hc).symm.trans h
    refine lv_iload_n C.1 C.2.1 dX8_byBuffer_39 rfl (lv_at hl 0 rfl) ?_
    exact g_iretP C w hr dX8_byBuffer_40 h
  · have h := (if_neg hc).symm.trans h
    refine lv_iload_n C.1 C.2.1 dX8_byBuffer_35 rfl (lv_at hl 1 rfl) ?_
    refine lv_goto (tgt := 40) C.1 C.2.1 dX8_byBuffer_36 (by decide) ?_
    exact g_iretP C w hr dX8_byBuffer_40 h

set_option maxHeartbeats 4000000 in
set_option maxRecDepth 100000 in
theorem m_X8_byRate {l : Launch} {D : va_G} {cA : Nat → ClassId} {B : Nat} {S : Nat → Prop} {σ : GS} {th : Nat} {a1 : Int32} {o : Int32} (sth : S th) (kth : kdG th = 8) (h0 : F_X8_byRate σ th a1 = some o) : MF l yX8_byRate cX8_byRate 4 (some .int) 2 48 D cA B S [.ref (B + th), .int a1] σ σ (some (.int o)) := by
  refine MF.of (by decide +kernel) (Nat.le_of_ble_eq_true rfl) ?_
  intro p e s m args below meth c C hr w ls hl
  have hl : lv_has ls 4 [(0, .ref (B + th)), (1, .int a1)] := hl
  have B_4 : ∀ (n4 : Nat) (v2 : Int32) (v3 : Int32) (H : Heap) (locs : List Loc) (ls : Array Slot), L_X8_byRate_4 th a1 n4 σ v2 v3 = some o → WS D cA B S σ s H locs → lv_has ls 4 [(0, .ref (B + th)), (1, .int a1), (2, .int v2), (3, .int v3)] → W p l e (rmF 2 48) s m args below meth c H locs 0 0 (MQ below (QF D cA B S σ (some (.int o))) args s 0 0 (AB B S)) (F0 m 4 ls []) := by
    intro n4
    induction n4 with
    | zero => intro  v2 v3 H locs ls h; exact nomatch (show (none : Option (Int32)) = some o from h)
    | succ n4 ih4 =>
      intro  v2 v3 H locs ls h  w hl
      unfold L_X8_byRate_4 at h
      refine lv_iload_n C.1 C.2.1 dX8_byRate_4 rfl (lv_at hl 3 rfl) ?_
      refine lv_aload_n C.1 C.2.1 dX8_byRate_5 rfl (lv_at hl 0 rfl) ?_
      refine lv_iload_n C.1 C.2.1 dX8_byRate_6 rfl (lv_at hl 1 rfl) ?_
      refine lv_iconst (v := 1) C.1 C.2.1 dX8_byRate_7 (by decide) ?_
      obtain ⟨o1, ho1, h⟩ := g_bd h
      refine g_callV (n := 2) (As := [.int a1, .int 1]) (rest := [.int v3]) C w (m_X8_toldOf sth kth ho1) (cl_8).1 sth kth (by decide) ml_X8_213 iy_X8_toldOf sy_X8_toldOf in_X8 cy_X8_toldOf ⟨rfl, by decide +kernel, by decide +kernel, by decide +kernel⟩ rfl ⟨Nat.le_of_ble_eq_true rfl, Nat.le_of_ble_eq_true rfl⟩ rfl (Nat.le_of_ble_eq_true rfl) hl.1 ⟨Nat.le_of_ble_eq_true rfl, Nat.le_of_ble_eq_true rfl⟩ dX8_byRate_8 (fun H locs w => ?_)
      refine lv_icmp_ge (tgt := 64) C.1 C.2.1 dX8_byRate_11 (by decide) (fun hc => ?_) (fun hc => ?_)
      · have h := (if_pos hc).symm.trans h
        refine lv_iload_n C.1 C.2.1 dX8_byRate_64 rfl (lv_at hl 2 rfl) ?_
        exact g_iretP C w hr dX8_byRate_65 h
      · have h := (if_neg hc).symm.trans h
        refine lv_aload_n C.1 C.2.1 dX8_byRate_14 rfl (lv_at hl 0 rfl) ?_
        refine lv_iload_n C.1 C.2.1 dX8_byRate_15 rfl (lv_at hl 1 rfl) ?_
        refine lv_aload_n C.1 C.2.1 dX8_byRate_16 rfl (lv_at hl 0 rfl) ?_
        refine lv_iload_n C.1 C.2.1 dX8_byRate_17 rfl (lv_at hl 1 rfl) ?_
        obtain ⟨o2, ho2, h⟩ := g_bd h
        refine g_callV (n := 1) (As := [.int a1]) (rest := [.int a1, .ref (B + th)]) C w (m_X8_askedMany sth kth ho2) (cl_8).1 sth kth (by decide) ml_X8_220 iy_X8_askedMany sy_X8_askedMany in_X8 cy_X8_askedMany ⟨rfl, by decide +kernel, by decide +kernel, by decide +kernel⟩ rfl ⟨Nat.le_of_ble_eq_true rfl, Nat.le_of_ble_eq_true rfl⟩ rfl (Nat.le_of_ble_eq_true rfl) hl.1 ⟨Nat.le_of_ble_eq_true rfl, Nat.le_of_ble_eq_true rfl⟩ dX8_byRate_18 (fun H locs w => ?_)
        refine lv_iload_n C.1 C.2.1 dX8_byRate_21 rfl (lv_at hl 3 rfl) ?_
        obtain ⟨o3, ho3, h⟩ := g_bd h
        refine g_callV (n := 3) (As := [.int a1, .int o2, .int v3]) (rest := []) C w (m_X8_sizeAt sth kth ho3) (cl_8).1 sth kth (by decide) ml_X8_223 iy_X8_sizeAt sy_X8_sizeAt in_X8 cy_X8_sizeAt ⟨rfl, by decide +kernel, by decide +kernel, by decide +kernel⟩ rfl ⟨Nat.le_of_ble_eq_true rfl, Nat.le_of_ble_eq_true rfl⟩ rfl (Nat.le_of_ble_eq_true rfl) hl.1 ⟨Nat.le_of_ble_eq_true rfl, Nat.le_of_ble_eq_true rfl⟩ dX8_byRate_22 (fun H locs w => ?_)
        refine lv_bipush (v := 100) C.1 C.2.1 dX8_byRate_25 (by decide) ?_
        refine lv_imul C.1 C.2.1 dX8_byRate_27 ?_
        refine lv_aload_n C.1 C.2.1 dX8_byRate_28 rfl (lv_at hl 0 rfl) ?_
        refine lv_iload_n C.1 C.2.1 dX8_byRate_29 rfl (lv_at hl 1 rfl) ?_
        refine lv_bipush (v := 11) C.1 C.2.1 dX8_byRate_30 (by decide) ?_
        obtain ⟨o4, ho4, h⟩ := g_bd h
        refine g_callV (n := 2) (As := [.int a1, .int 11]) (rest := [.int (o3 * 100)]) C w (m_X8_of sth kth ho4) (cl_8).1 sth kth (by decide) ml_X8_217 iy_X8_of sy_X8_of in_X8 cy_X8_of ⟨rfl, by decide +kernel, by decide +kernel, by decide +kernel⟩ rfl ⟨Nat.le_of_ble_eq_true rfl, Nat.le_of_ble_eq_true rfl⟩ rfl (Nat.le_of_ble_eq_true rfl) hl.1 ⟨Nat.le_of_ble_eq_true rfl, Nat.le_of_ble_eq_true rfl⟩ dX8_byRate_32 (fun H locs w => ?_)
        refine lv_aload_n C.1 C.2.1 dX8_byRate_35 rfl (lv_at hl 0 rfl) ?_
        refine g_getR C w fl_X8_7 sth kth (by decide) kt_8_1 (fun _ _ _ => rfl) dX8_byRate_36 (fun s5 k5 => ?_)
        refine lv_iconst (v := 0) C.1 C.2.1 dX8_byRate_39 (by decide) ?_
        obtain ⟨hb, h⟩ := g_ob h
        refine g_iald C w s5 k5 hb dX8_byRate_40 ?_
        refine lv_imul C.1 C.2.1 dX8_byRate_41 ?_
        refine lv_aload_n C.1 C.2.1 dX8_byRate_42 rfl (lv_at hl 0 rfl) ?_
        refine g_getR C w fl_X8_7 sth kth (by decide) kt_8_1 (fun _ _ _ => rfl) dX8_byRate_43 (fun s6 k6 => ?_)
        refine lv_iconst (v := 3) C.1 C.2.1 dX8_byRate_46 (by decide) ?_
        obtain ⟨hb, h⟩ := g_ob h
        refine g_iald C w s6 k6 hb dX8_byRate_47 ?_
        refine lv_imul C.1 C.2.1 dX8_byRate_48 ?_
        refine lv_icmp_gt (tgt := 56) C.1 C.2.1 dX8_byRate_49 (by decide) (fun hc => ?_) (fun hc => ?_)
        · have h := (if_pos hc).symm.trans h
          refine lv_iload_n C.1 C.2.1 dX8_byRate_56 rfl (lv_at hl 2 rfl) ?_
          refine lv_istore_n (lv' := [(2, .int v2), (0, .ref (B + th)), (1, .int a1), (3, .int v3)]) C.1 C.2.1 dX8_byRate_57 rfl hl (by decide) rfl (fun ls hl => ?_)
          refine lv_iinc (k := 3) (v := v3 + 1) (lv' := [(3, .int (v3 + 1)), (2, .int v2), (0, .ref (B + th)), (1, .int a1)]) C.1 C.2.1 dX8_byRate_58 hl rfl rfl (by decide) rfl (fun ls hl => ?_)
          refine lv_goto (tgt := 4) C.1 C.2.1 dX8_byRate_61 (by decide) ?_
          exact ih4 _ _ _ _ _ h w (show lv_has ls 4 [(0, .ref (B + th)), (1, .int a1), (2, .int v2), (3, .int (v3 + 1))] from lv_sub hl [2, 3, 1, 0] rfl)
        · have h := (if_neg hc).symm.trans h
          refine lv_iload_n C.1 C.2.1 dX8_byRate_52 rfl (lv_at hl 3 rfl) ?_
          refine lv_goto (tgt := 57) C.1 C.2.1 dX8_byRate_53 (by decide) ?_
          refine lv_istore_n (lv' := [(2, .int v3), (0, .ref (B + th)), (1, .int a1), (3, .int v3)]) C.1 C.2.1 dX8_byRate_57 rfl hl (by decide) rfl (fun ls hl => ?_)
          refine lv_iinc (k := 3) (v := v3 + 1) (lv' := [(3, .int (v3 + 1)), (2, .int v3), (0, .ref (B + th)), (1, .int a1)]) C.1 C.2.1 dX8_byRate_58 hl rfl rfl (by decide) rfl (fun ls hl => ?_)
          refine lv_goto (tgt := 4) C.1 C.2.1 dX8_byRate_61 (by decide) ?_
          exact ih4 _ _ _ _ _ h w (show lv_has ls 4 [(0, .ref (B + th)), (1, .int a1), (2, .int v3), (3, .int (v3 + 1))] from lv_sub hl [2, 3, 1, 0] rfl)
  have h := h0
  unfold F_X8_byRate at h
  refine lv_iconst (v := 0) C.1 C.2.1 dX8_byRate_0 (by decide) ?_
  refine lv_istore_n (lv' := [(2, .int 0), (0, .ref (B + th)), (1, .int a1)]) C.1 C.2.1 dX8_byRate_1 rfl hl (by decide) rfl (fun ls hl => ?_)
  refine lv_iconst (v := 1) C.1 C.2.1 dX8_byRate_2 (by decide) ?_
  refine lv_istore_n (lv' := [(3, .int 1), (2, .int 0), (0, .ref (B + th)), (1, .int a1)]) C.1 C.2.1 dX8_byRate_3 rfl hl (by decide) rfl (fun ls hl => ?_)
  exact B_4 _ _ _ _ _ _ h w (show lv_has ls 4 [(0, .ref (B + th)), (1, .int a1), (2, .int 0), (3, .int 1)] from lv_sub hl [2, 3, 1, 0] rfl)

set_option maxHeartbeats 4000000 in
set_option maxRecDepth 100000 in
theorem m_X8_byRule {l : Launch} {D : va_G} {cA : Nat → ClassId} {B : Nat} {S : Nat → Prop} {σ : GS} {th : Nat} {a1 : Int32} {o : Int32} (sth : S th) (kth : kdG th = 8) (h0 : F_X8_byRule σ th a1 = some o) : MF l yX8_byRule cX8_byRule 2 (some .int) 3 71 D cA B S [.ref (B + th), .int a1] σ σ (some (.int o)) := by
  refine MF.of (by decide +kernel) (Nat.le_of_ble_eq_true rfl) ?_
  intro p e s m args below meth c C hr w ls hl
  have hl : lv_has ls 2 [(0, .ref (B + th)), (1, .int a1)] := hl
  have h := h0
  unfold F_X8_byRule at h
  refine lv_aload_n C.1 C.2.1 dX8_byRule_0 rfl (lv_at hl 0 rfl) ?_
  refine lv_iload_n C.1 C.2.1 dX8_byRule_1 rfl (lv_at hl 1 rfl) ?_
  refine lv_bipush (v := 12) C.1 C.2.1 dX8_byRule_2 (by decide) ?_
  obtain ⟨o1, ho1, h⟩ := g_bd h
  refine g_callV (n := 2) (As := [.int a1, .int 12]) (rest := []) C w (m_X8_of sth kth ho1) (cl_8).1 sth kth (by decide) ml_X8_217 iy_X8_of sy_X8_of in_X8 cy_X8_of ⟨rfl, by decide +kernel, by decide +kernel, by decide +kernel⟩ rfl ⟨Nat.le_of_ble_eq_true rfl, Nat.le_of_ble_eq_true rfl⟩ rfl (Nat.le_of_ble_eq_true rfl) hl.1 ⟨Nat.le_of_ble_eq_true rfl, Nat.le_of_ble_eq_true rfl⟩ dX8_byRule_4 (fun H locs w => ?_)
  by_cases hc0 : o1 = 0
  · have h := (if_pos hc0).symm.trans h
    refine lv_tableIn (off := 25) (tgt := 32) C.1 C.2.1 dX8_byRule_7 (by rw [hc0]; decide) (by rw [hc0]; decide) (by rw [hc0]; decide) (by decide) ?_
    refine lv_iconst (v := 0) C.1 C.2.1 dX8_byRule_32 (by decide) ?_
    exact g_iretP C w hr dX8_byRule_33 h
  have h := (if_neg hc0).symm.trans h
  by_cases hc1 : o1 = 1
  · have h := (if_pos hc1).symm.trans h
    refine lv_tableIn (off := 27) (tgt := 34) C.1 C.2.1 dX8_byRule_7 (by rw [hc1]; decide) (by rw [hc1]; decide) (by rw [hc1]; decide) (by decide) ?_
    refine lv_aload_n C.1 C.2.1 dX8_byRule_34 rfl (lv_at hl 0 rfl) ?_
    refine lv_iload_n C.1 C.2.1 dX8_byRule_35 rfl (lv_at hl 1 rfl) ?_
    obtain ⟨o6, ho6, h⟩ := g_bd h
    refine g_callV (n := 1) (As := [.int a1]) (rest := []) C w (m_X8_byBuffer sth kth ho6) (cl_8).1 sth kth (by decide) ml_X8_227 iy_X8_byBuffer sy_X8_byBuffer in_X8 cy_X8_byBuffer ⟨rfl, by decide +kernel, by decide +kernel, by decide +kernel⟩ rfl ⟨Nat.le_of_ble_eq_true rfl, Nat.le_of_ble_eq_true rfl⟩ rfl (Nat.le_of_ble_eq_true rfl) hl.1 ⟨Nat.le_of_ble_eq_true rfl, Nat.le_of_ble_eq_true rfl⟩ dX8_byRule_36 (fun H locs w => ?_)
    exact g_iretP C w hr dX8_byRule_39 h
  have h := (if_neg hc1).symm.trans h
  by_cases hc2 : o1 = 2
  · have h := (if_pos hc2).symm.trans h
    refine lv_tableIn (off := 33) (tgt := 40) C.1 C.2.1 dX8_byRule_7 (by rw [hc2]; decide) (by rw [hc2]; decide) (by rw [hc2]; decide) (by decide) ?_
    refine lv_aload_n C.1 C.2.1 dX8_byRule_40 rfl (lv_at hl 0 rfl) ?_
    refine lv_iload_n C.1 C.2.1 dX8_byRule_41 rfl (lv_at hl 1 rfl) ?_
    obtain ⟨o7, ho7, h⟩ := g_bd h
    refine g_callV (n := 1) (As := [.int a1]) (rest := []) C w (m_X8_byRate sth kth ho7) (cl_8).1 sth kth (by decide) ml_X8_230 iy_X8_byRate sy_X8_byRate in_X8 cy_X8_byRate ⟨rfl, by decide +kernel, by decide +kernel, by decide +kernel⟩ rfl ⟨Nat.le_of_ble_eq_true rfl, Nat.le_of_ble_eq_true rfl⟩ rfl (Nat.le_of_ble_eq_true rfl) hl.1 ⟨Nat.le_of_ble_eq_true rfl, Nat.le_of_ble_eq_true rfl⟩ dX8_byRule_42 (fun H locs w => ?_)
    exact g_iretP C w hr dX8_byRule_45 h
  have h := (if_neg hc2).symm.trans h
  refine lv_tableOut (tgt := 46) C.1 C.2.1 dX8_byRule_7 (g_sw0_2 hc0 hc1 hc2) (by decide) ?_
  refine lv_aload_n C.1 C.2.1 dX8_byRule_46 rfl (lv_at hl 0 rfl) ?_
  refine lv_iload_n C.1 C.2.1 dX8_byRule_47 rfl (lv_at hl 1 rfl) ?_
  obtain ⟨o2, ho2, h⟩ := g_bd h
  refine g_callV (n := 1) (As := [.int a1]) (rest := []) C w (m_X8_byBuffer sth kth ho2) (cl_8).1 sth kth (by decide) ml_X8_227 iy_X8_byBuffer sy_X8_byBuffer in_X8 cy_X8_byBuffer ⟨rfl, by decide +kernel, by decide +kernel, by decide +kernel⟩ rfl ⟨Nat.le_of_ble_eq_true rfl, Nat.le_of_ble_eq_true rfl⟩ rfl (Nat.le_of_ble_eq_true rfl) hl.1 ⟨Nat.le_of_ble_eq_true rfl, Nat.le_of_ble_eq_true rfl⟩ dX8_byRule_48 (fun H locs w => ?_)
  refine lv_aload_n C.1 C.2.1 dX8_byRule_51 rfl (lv_at hl 0 rfl) ?_
  refine lv_iload_n C.1 C.2.1 dX8_byRule_52 rfl (lv_at hl 1 rfl) ?_
  obtain ⟨o3, ho3, h⟩ := g_bd h
  refine g_callV (n := 1) (As := [.int a1]) (rest := [.int o2]) C w (m_X8_byRate sth kth ho3) (cl_8).1 sth kth (by decide) ml_X8_230 iy_X8_byRate sy_X8_byRate in_X8 cy_X8_byRate ⟨rfl, by decide +kernel, by decide +kernel, by decide +kernel⟩ rfl ⟨Nat.le_of_ble_eq_true rfl, Nat.le_of_ble_eq_true rfl⟩ rfl (Nat.le_of_ble_eq_true rfl) hl.1 ⟨Nat.le_of_ble_eq_true rfl, Nat.le_of_ble_eq_true rfl⟩ dX8_byRule_53 (fun H locs w => ?_)
  refine lv_icmp_ge (tgt := 67) C.1 C.2.1 dX8_byRule_56 (by decide) (fun hc => ?_) (fun hc => ?_)
  · have h := (if_pos hc).symm.trans h
    refine lv_aload_n C.1 C.2.1 dX8_byRule_67 rfl (lv_at hl 0 rfl) ?_
    refine lv_iload_n C.1 C.2.1 dX8_byRule_68 rfl (lv_at hl 1 rfl) ?_
    obtain ⟨o4, ho4, h⟩ := g_bd h
    refine g_callV (n := 1) (As := [.int a1]) (rest := []) C w (m_X8_byRate sth kth ho4) (cl_8).1 sth kth (by decide) ml_X8_230 iy_X8_byRate sy_X8_byRate in_X8 cy_X8_byRate ⟨rfl, by decide +kernel, by decide +kernel, by decide +kernel⟩ rfl ⟨Nat.le_of_ble_eq_true rfl, Nat.le_of_ble_eq_true rfl⟩ rfl (Nat.le_of_ble_eq_true rfl) hl.1 ⟨Nat.le_of_ble_eq_true rfl, Nat.le_of_ble_eq_true rfl⟩ dX8_byRule_69 (fun H locs w => ?_)
    exact g_iretP C w hr dX8_byRule_72 h
  · have h := (if_neg hc).symm.trans h
    refine lv_aload_n C.1 C.2.1 dX8_byRule_59 rfl (lv_at hl 0 rfl) ?_
    refine lv_iload_n C.1 C.2.1 dX8_byRule_60 rfl (lv_at hl 1 rfl) ?_
    obtain ⟨o5, ho5, h⟩ := g_bd h
    refine g_callV (n := 1) (As := [.int a1]) (rest := []) C w (m_X8_byBuffer sth kth ho5) (cl_8).1 sth kth (by decide) ml_X8_227 iy_X8_byBuffer sy_X8_byBuffer in_X8 cy_X8_byBuffer ⟨rfl, by decide +kernel, by decide +kernel, by decide +kernel⟩ rfl ⟨Nat.le_of_ble_eq_true rfl, Nat.le_of_ble_eq_true rfl⟩ rfl (Nat.le_of_ble_eq_true rfl) hl.1 ⟨Nat.le_of_ble_eq_true rfl, Nat.le_of_ble_eq_true rfl⟩ dX8_byRule_61 (fun H locs w => ?_)
    refine lv_goto (tgt := 72) C.1 C.2.1 dX8_byRule_64 (by decide) ?_
    exact g_iretP C w hr dX8_byRule_72 h

set_option maxHeartbeats 4000000 in
set_option maxRecDepth 100000 in
theorem m_X8_asks {l : Launch} {D : va_G} {cA : Nat → ClassId} {B : Nat} {S : Nat → Prop} {σ : GS} {th : Nat} {a1 : Int32} {o : GS} (sth : S th) (kth : kdG th = 8) (h0 : F_X8_asks σ th a1 = some o) : MF l yX8_asks cX8_asks 4 none 4 92 D cA B S [.ref (B + th), .int a1] σ o none := by
  refine MF.of (by decide +kernel) (Nat.le_of_ble_eq_true rfl) ?_
  intro p e s m args below meth c C hr w ls hl
  have hl : lv_has ls 4 [(0, .ref (B + th)), (1, .int a1)] := hl
  have B_105 : ∀ (σ : GS) (u0 : Int32) (H : Heap) (locs : List Loc) (ls : Array Slot), J_X8_asks_105 th a1 σ u0 = some o → WS D cA B S σ s H locs → lv_has ls 4 [(0, .ref (B + th)), (1, .int a1)] → W p l e (rmF 4 92) s m args below meth c H locs 0 0 (MQ below (QF D cA B S o none) args s 0 0 (AB B S)) (F0 m 105 ls [.int u0]) := by
    intro σ u0 H locs ls h  w hl
    unfold J_X8_asks_105 at h
    refine lv_istore_n (lv' := [(3, .int u0), (0, .ref (B + th)), (1, .int a1)]) C.1 C.2.1 dX8_asks_105 rfl hl (by decide) rfl (fun ls hl => ?_)
    refine lv_aload_n C.1 C.2.1 dX8_asks_106 rfl (lv_at hl 1 rfl) ?_
    refine lv_iload_n C.1 C.2.1 dX8_asks_107 rfl (lv_at hl 2 rfl) ?_
    refine lv_iconst (v := 4) C.1 C.2.1 dX8_asks_108 (by decide) ?_
    refine lv_aload_n C.1 C.2.1 dX8_asks_109 rfl (lv_at hl 1 rfl) ?_
    refine lv_iload_n C.1 C.2.1 dX8_asks_110 rfl (lv_at hl 2 rfl) ?_
    refine lv_aload_n C.1 C.2.1 dX8_asks_111 rfl (lv_at hl 1 rfl) ?_
    refine lv_iload_n C.1 C.2.1 dX8_asks_112 rfl (lv_at hl 2 rfl) ?_
    refine lv_iconst (v := 2) C.1 C.2.1 dX8_asks_113 (by decide) ?_
    obtain ⟨o12, ho12, h⟩ := g_bd h
    refine g_callV (n := 2) (As := [.int a1, .int 2]) (rest := [.int a1, .ref (B + th), .int 4, .int a1, .ref (B + th)]) C w (m_X8_of sth kth ho12) (cl_8).1 sth kth (by decide) ml_X8_217 iy_X8_of sy_X8_of in_X8 cy_X8_of ⟨rfl, by decide +kernel, by decide +kernel, by decide +kernel⟩ rfl ⟨Nat.le_of_ble_eq_true rfl, Nat.le_of_ble_eq_true rfl⟩ rfl (Nat.le_of_ble_eq_true rfl) hl.1 ⟨Nat.le_of_ble_eq_true rfl, Nat.le_of_ble_eq_true rfl⟩ dX8_asks_114 (fun H locs w => ?_)
    refine lv_iload_n C.1 C.2.1 dX8_asks_117 rfl (lv_at hl 0 rfl) ?_
    obtain ⟨o13, ho13, h⟩ := g_bd h
    refine g_callV (n := 3) (As := [.int a1, .int o12, .int u0]) (rest := [.int 4, .int a1, .ref (B + th)]) C w (m_X8_sizeAt sth kth ho13) (cl_8).1 sth kth (by decide) ml_X8_223 iy_X8_sizeAt sy_X8_sizeAt in_X8 cy_X8_sizeAt ⟨rfl, by decide +kernel, by decide +kernel, by decide +kernel⟩ rfl ⟨Nat.le_of_ble_eq_true rfl, Nat.le_of_ble_eq_true rfl⟩ rfl (Nat.le_of_ble_eq_true rfl) hl.1 ⟨Nat.le_of_ble_eq_true rfl, Nat.le_of_ble_eq_true rfl⟩ dX8_asks_118 (fun H locs w => ?_)
    obtain ⟨o14, ho14, h⟩ := g_bd h
    refine g_callV (n := 3) (As := [.int a1, .int 4, .int o13]) (rest := []) C w (m_X8_sets sth kth ho14) (cl_8).1 sth kth (by decide) ml_X8_206 iy_X8_sets sy_X8_sets in_X8 cy_X8_sets ⟨rfl, by decide +kernel, by decide +kernel, by decide +kernel⟩ rfl ⟨Nat.le_of_ble_eq_true rfl, Nat.le_of_ble_eq_true rfl⟩ rfl (Nat.le_of_ble_eq_true rfl) hl.1 ⟨Nat.le_of_ble_eq_true rfl, Nat.le_of_ble_eq_true rfl⟩ dX8_asks_121 (fun H locs w => ?_)
    refine lv_aload_n C.1 C.2.1 dX8_asks_124 rfl (lv_at hl 1 rfl) ?_
    refine lv_iload_n C.1 C.2.1 dX8_asks_125 rfl (lv_at hl 2 rfl) ?_
    refine lv_iconst (v := 3) C.1 C.2.1 dX8_asks_126 (by decide) ?_
    refine lv_iload_n C.1 C.2.1 dX8_asks_127 rfl (lv_at hl 0 rfl) ?_
    obtain ⟨o15, ho15, h⟩ := g_bd h
    refine g_callV (n := 3) (As := [.int a1, .int 3, .int u0]) (rest := []) C w (m_X8_sets sth kth ho15) (cl_8).1 sth kth (by decide) ml_X8_206 iy_X8_sets sy_X8_sets in_X8 cy_X8_sets ⟨rfl, by decide +kernel, by decide +kernel, by decide +kernel⟩ rfl ⟨Nat.le_of_ble_eq_true rfl, Nat.le_of_ble_eq_true rfl⟩ rfl (Nat.le_of_ble_eq_true rfl) hl.1 ⟨Nat.le_of_ble_eq_true rfl, Nat.le_of_ble_eq_true rfl⟩ dX8_asks_128 (fun H locs w => ?_)
    refine lv_aload_n C.1 C.2.1 dX8_asks_131 rfl (lv_at hl 1 rfl) ?_
    refine lv_iload_n C.1 C.2.1 dX8_asks_132 rfl (lv_at hl 2 rfl) ?_
    refine lv_bipush (v := 14) C.1 C.2.1 dX8_asks_133 (by decide) ?_
    refine lv_aload_n C.1 C.2.1 dX8_asks_135 rfl (lv_at hl 1 rfl) ?_
    refine g_getR C w fl_X8_17 sth kth (by decide) kt_8_3 (fun _ _ _ => rfl) dX8_asks_136 (fun s16 k16 => ?_)
    refine lv_iconst (v := 0) C.1 C.2.1 dX8_asks_139 (by decide) ?_
    obtain ⟨hb, h⟩ := g_ob h
    refine g_iald C w s16 k16 hb dX8_asks_140 ?_
    obtain ⟨o17, ho17, h⟩ := g_bd h
    refine g_callV (n := 3) (As := [.int a1, .int 14, .int (gI o15 (rfG th 3) (0 : Int32).toNatClampNeg)]) (rest := []) C w (m_X8_sets sth kth ho17) (cl_8).1 sth kth (by decide) ml_X8_206 iy_X8_sets sy_X8_sets in_X8 cy_X8_sets ⟨rfl, by decide +kernel, by decide +kernel, by decide +kernel⟩ rfl ⟨Nat.le_of_ble_eq_true rfl, Nat.le_of_ble_eq_true rfl⟩ rfl (Nat.le_of_ble_eq_true rfl) hl.1 ⟨Nat.le_of_ble_eq_true rfl, Nat.le_of_ble_eq_true rfl⟩ dX8_asks_141 (fun H locs w => ?_)
    exact g_vretV C w hr dX8_asks_144 h
  have B_36 : ∀ (σ : GS) (u0 : Int32) (H : Heap) (locs : List Loc) (ls : Array Slot), J_X8_asks_36 th a1 σ u0 = some o → WS D cA B S σ s H locs → lv_has ls 4 [(0, .ref (B + th)), (1, .int a1)] → W p l e (rmF 4 92) s m args below meth c H locs 0 0 (MQ below (QF D cA B S o none) args s 0 0 (AB B S)) (F0 m 36 ls [.int u0]) := by
    intro σ u0 H locs ls h  w hl
    unfold J_X8_asks_36 at h
    refine lv_istore_n (lv' := [(2, .int u0), (0, .ref (B + th)), (1, .int a1)]) C.1 C.2.1 dX8_asks_36 rfl hl (by decide) rfl (fun ls hl => ?_)
    refine lv_aload_n C.1 C.2.1 dX8_asks_37 rfl (lv_at hl 1 rfl) ?_
    refine lv_iload_n C.1 C.2.1 dX8_asks_38 rfl (lv_at hl 2 rfl) ?_
    refine lv_iconst (v := 0) C.1 C.2.1 dX8_asks_39 (by decide) ?_
    obtain ⟨o5, ho5, h⟩ := g_bd h
    refine g_callV (n := 2) (As := [.int a1, .int 0]) (rest := []) C w (m_X8_of sth kth ho5) (cl_8).1 sth kth (by decide) ml_X8_217 iy_X8_of sy_X8_of in_X8 cy_X8_of ⟨rfl, by decide +kernel, by decide +kernel, by decide +kernel⟩ rfl ⟨Nat.le_of_ble_eq_true rfl, Nat.le_of_ble_eq_true rfl⟩ rfl (Nat.le_of_ble_eq_true rfl) hl.1 ⟨Nat.le_of_ble_eq_true rfl, Nat.le_of_ble_eq_true rfl⟩ dX8_asks_40 (fun H locs w => ?_)
    refine lv_iconst (v := 4) C.1 C.2.1 dX8_asks_43 (by decide) ?_
    refine lv_icmp_eq (tgt := 77) C.1 C.2.1 dX8_asks_44 (by decide) (fun hc => ?_) (fun hc => ?_)
    · have h := (if_pos hc).symm.trans h
      exact g_vretV C w hr dX8_asks_77 h
    · have h := (if_neg hc).symm.trans h
      refine lv_aload_n C.1 C.2.1 dX8_asks_47 rfl (lv_at hl 1 rfl) ?_
      refine lv_iload_n C.1 C.2.1 dX8_asks_48 rfl (lv_at hl 2 rfl) ?_
      obtain ⟨o6, ho6, h⟩ := g_bd h
      refine g_callV (n := 1) (As := [.int a1]) (rest := []) C w (m_X8_hasJoined sth kth ho6) (cl_8).1 sth kth (by decide) ml_X8_233 iy_X8_hasJoined sy_X8_hasJoined in_X8 cy_X8_hasJoined ⟨rfl, by decide +kernel, by decide +kernel, by decide +kernel⟩ rfl ⟨Nat.le_of_ble_eq_true rfl, Nat.le_of_ble_eq_true rfl⟩ rfl (Nat.le_of_ble_eq_true rfl) hl.1 ⟨Nat.le_of_ble_eq_true rfl, Nat.le_of_ble_eq_true rfl⟩ dX8_asks_49 (fun H locs w => ?_)
      refine lv_if_eq (tgt := 77) C.1 C.2.1 dX8_asks_52 (by decide) (fun hc => ?_) (fun hc => ?_)
      · have h := (if_pos hc).symm.trans h
        exact g_vretV C w hr dX8_asks_77 h
      · have h := (if_neg hc).symm.trans h
        refine lv_aload_n C.1 C.2.1 dX8_asks_55 rfl (lv_at hl 1 rfl) ?_
        refine lv_iload_n C.1 C.2.1 dX8_asks_56 rfl (lv_at hl 2 rfl) ?_
        refine lv_iconst (v := 3) C.1 C.2.1 dX8_asks_57 (by decide) ?_
        obtain ⟨o7, ho7, h⟩ := g_bd h
        refine g_callV (n := 2) (As := [.int a1, .int 3]) (rest := []) C w (m_X8_of sth kth ho7) (cl_8).1 sth kth (by decide) ml_X8_217 iy_X8_of sy_X8_of in_X8 cy_X8_of ⟨rfl, by decide +kernel, by decide +kernel, by decide +kernel⟩ rfl ⟨Nat.le_of_ble_eq_true rfl, Nat.le_of_ble_eq_true rfl⟩ rfl (Nat.le_of_ble_eq_true rfl) hl.1 ⟨Nat.le_of_ble_eq_true rfl, Nat.le_of_ble_eq_true rfl⟩ dX8_asks_58 (fun H locs w => ?_)
        refine lv_iconst (v := (-1)) C.1 C.2.1 dX8_asks_61 (by decide) ?_
        refine lv_icmp_ne (tgt := 77) C.1 C.2.1 dX8_asks_62 (by decide) (fun hc => ?_) (fun hc => ?_)
        · have h := (if_neg hc).symm.trans h
          exact g_vretV C w hr dX8_asks_77 h
        · have h := (if_pos hc).symm.trans h
          refine lv_aload_n C.1 C.2.1 dX8_asks_65 rfl (lv_at hl 1 rfl) ?_
          refine lv_iload_n C.1 C.2.1 dX8_asks_66 rfl (lv_at hl 2 rfl) ?_
          obtain ⟨o8, ho8, h⟩ := g_bd h
          refine g_callV (n := 1) (As := [.int a1]) (rest := []) C w (m_X8_hasAll sth kth ho8) (cl_8).1 sth kth (by decide) ml_X8_236 iy_X8_hasAll sy_X8_hasAll in_X8 cy_X8_hasAll ⟨rfl, by decide +kernel, by decide +kernel, by decide +kernel⟩ rfl ⟨Nat.le_of_ble_eq_true rfl, Nat.le_of_ble_eq_true rfl⟩ rfl (Nat.le_of_ble_eq_true rfl) hl.1 ⟨Nat.le_of_ble_eq_true rfl, Nat.le_of_ble_eq_true rfl⟩ dX8_asks_67 (fun H locs w => ?_)
          refine lv_if_ne (tgt := 77) C.1 C.2.1 dX8_asks_70 (by decide) (fun hc => ?_) (fun hc => ?_)
          · have h := (if_neg hc).symm.trans h
            exact g_vretV C w hr dX8_asks_77 h
          · have h := (if_pos hc).symm.trans h
            refine lv_iload_n C.1 C.2.1 dX8_asks_73 rfl (lv_at hl 0 rfl) ?_
            refine lv_if_ne (tgt := 78) C.1 C.2.1 dX8_asks_74 (by decide) (fun hc => ?_) (fun hc => ?_)
            · have h := (if_neg hc).symm.trans h
              refine lv_aload_n C.1 C.2.1 dX8_asks_78 rfl (lv_at hl 1 rfl) ?_
              refine g_getI C w fl_X8_46 sth kth (by decide) (fun _ _ _ => rfl) dX8_asks_79 ?_
              refine lv_iload_n C.1 C.2.1 dX8_asks_82 rfl (lv_at hl 2 rfl) ?_
              refine lv_icmp_ne (tgt := 100) C.1 C.2.1 dX8_asks_83 (by decide) (fun hc => ?_) (fun hc => ?_)
              · have h := (if_neg hc).symm.trans h
                refine lv_aload_n C.1 C.2.1 dX8_asks_100 rfl (lv_at hl 1 rfl) ?_
                refine lv_iload_n C.1 C.2.1 dX8_asks_101 rfl (lv_at hl 2 rfl) ?_
                obtain ⟨o9, ho9, h⟩ := g_bd h
                refine g_callV (n := 1) (As := [.int a1]) (rest := []) C w (m_X8_byRule sth kth ho9) (cl_8).1 sth kth (by decide) ml_X8_239 iy_X8_byRule sy_X8_byRule in_X8 cy_X8_byRule ⟨rfl, by decide +kernel, by decide +kernel, by decide +kernel⟩ rfl ⟨Nat.le_of_ble_eq_true rfl, Nat.le_of_ble_eq_true rfl⟩ rfl (Nat.le_of_ble_eq_true rfl) hl.1 ⟨Nat.le_of_ble_eq_true rfl, Nat.le_of_ble_eq_true rfl⟩ dX8_asks_102 (fun H locs w => ?_)
                exact B_105 _ _ _ _ _ h w (show lv_has ls 4 [(0, .ref (B + th)), (1, .int a1)] from lv_sub hl [1, 2] rfl)
              · have h := (if_pos hc).symm.trans h
                refine lv_aload_n C.1 C.2.1 dX8_asks_86 rfl (lv_at hl 1 rfl) ?_
                refine g_getR C w fl_X8_49 sth kth (by decide) kt_8_24 (fun _ _ _ => rfl) dX8_asks_87 (fun s10 k10 => ?_)
                refine lv_aload_n C.1 C.2.1 dX8_asks_90 rfl (lv_at hl 1 rfl) ?_
                refine lv_iload_n C.1 C.2.1 dX8_asks_91 rfl (lv_at hl 2 rfl) ?_
                refine lv_iconst (v := 2) C.1 C.2.1 dX8_asks_92 (by decide) ?_
                obtain ⟨o11, ho11, h⟩ := g_bd h
                refine g_callV (n := 2) (As := [.int a1, .int 2]) (rest := [.ref (B + (rfG th 24))]) C w (m_X8_of sth kth ho11) (cl_8).1 sth kth (by decide) ml_X8_217 iy_X8_of sy_X8_of in_X8 cy_X8_of ⟨rfl, by decide +kernel, by decide +kernel, by decide +kernel⟩ rfl ⟨Nat.le_of_ble_eq_true rfl, Nat.le_of_ble_eq_true rfl⟩ rfl (Nat.le_of_ble_eq_true rfl) hl.1 ⟨Nat.le_of_ble_eq_true rfl, Nat.le_of_ble_eq_true rfl⟩ dX8_asks_93 (fun H locs w => ?_)
                obtain ⟨hb, h⟩ := g_ob h
                refine g_iald C w s10 k10 hb dX8_asks_96 ?_
                refine lv_goto (tgt := 105) C.1 C.2.1 dX8_asks_97 (by decide) ?_
                exact B_105 _ _ _ _ _ h w (show lv_has ls 4 [(0, .ref (B + th)), (1, .int a1)] from lv_sub hl [1, 2] rfl)
            · have h := (if_pos hc).symm.trans h
              exact g_vretV C w hr dX8_asks_77 h
  have B_31 : ∀ (σ : GS) (H : Heap) (locs : List Loc) (ls : Array Slot), J_X8_asks_31 th a1 σ = some o → WS D cA B S σ s H locs → lv_has ls 4 [(0, .ref (B + th)), (1, .int a1)] → W p l e (rmF 4 92) s m args below meth c H locs 0 0 (MQ below (QF D cA B S o none) args s 0 0 (AB B S)) (F0 m 31 ls []) := by
    intro σ H locs ls h  w hl
    unfold J_X8_asks_31 at h
    refine lv_iconst (v := 1) C.1 C.2.1 dX8_asks_31 (by decide) ?_
    refine lv_goto (tgt := 36) C.1 C.2.1 dX8_asks_32 (by decide) ?_
    exact B_36 _ _ _ _ _ h w (show lv_has ls 4 [(0, .ref (B + th)), (1, .int a1)] from lv_sub hl [0, 1] rfl)
  have h := h0
  unfold F_X8_asks at h
  refine lv_aload_n C.1 C.2.1 dX8_asks_0 rfl (lv_at hl 0 rfl) ?_
  refine lv_iload_n C.1 C.2.1 dX8_asks_1 rfl (lv_at hl 1 rfl) ?_
  refine lv_iconst (v := 1) C.1 C.2.1 dX8_asks_2 (by decide) ?_
  obtain ⟨o1, ho1, h⟩ := g_bd h
  refine g_callV (n := 2) (As := [.int a1, .int 1]) (rest := []) C w (m_X8_of sth kth ho1) (cl_8).1 sth kth (by decide) ml_X8_217 iy_X8_of sy_X8_of in_X8 cy_X8_of ⟨rfl, by decide +kernel, by decide +kernel, by decide +kernel⟩ rfl ⟨Nat.le_of_ble_eq_true rfl, Nat.le_of_ble_eq_true rfl⟩ rfl (Nat.le_of_ble_eq_true rfl) hl.1 ⟨Nat.le_of_ble_eq_true rfl, Nat.le_of_ble_eq_true rfl⟩ dX8_asks_3 (fun H locs w => ?_)
  refine lv_if_eq (tgt := 31) C.1 C.2.1 dX8_asks_6 (by decide) (fun hc => ?_) (fun hc => ?_)
  · have h := (if_pos hc).symm.trans h
    exact B_31 _ _ _ _ h w (show lv_has ls 4 [(0, .ref (B + th)), (1, .int a1)] from lv_sub hl [0, 1] rfl)
  · have h := (if_neg hc).symm.trans h
    refine lv_aload_n C.1 C.2.1 dX8_asks_9 rfl (lv_at hl 0 rfl) ?_
    refine lv_iload_n C.1 C.2.1 dX8_asks_10 rfl (lv_at hl 1 rfl) ?_
    refine lv_iconst (v := 1) C.1 C.2.1 dX8_asks_11 (by decide) ?_
    obtain ⟨o2, ho2, h⟩ := g_bd h
    refine g_callV (n := 2) (As := [.int a1, .int 1]) (rest := []) C w (m_X8_of sth kth ho2) (cl_8).1 sth kth (by decide) ml_X8_217 iy_X8_of sy_X8_of in_X8 cy_X8_of ⟨rfl, by decide +kernel, by decide +kernel, by decide +kernel⟩ rfl ⟨Nat.le_of_ble_eq_true rfl, Nat.le_of_ble_eq_true rfl⟩ rfl (Nat.le_of_ble_eq_true rfl) hl.1 ⟨Nat.le_of_ble_eq_true rfl, Nat.le_of_ble_eq_true rfl⟩ dX8_asks_12 (fun H locs w => ?_)
    refine lv_aload_n C.1 C.2.1 dX8_asks_15 rfl (lv_at hl 0 rfl) ?_
    refine g_getR C w fl_X8_7 sth kth (by decide) kt_8_1 (fun _ _ _ => rfl) dX8_asks_16 (fun s3 k3 => ?_)
    refine lv_iconst (v := 0) C.1 C.2.1 dX8_asks_19 (by decide) ?_
    obtain ⟨hb, h⟩ := g_ob h
    refine g_iald C w s3 k3 hb dX8_asks_20 ?_
    refine lv_iadd C.1 C.2.1 dX8_asks_21 ?_
    refine lv_aload_n C.1 C.2.1 dX8_asks_22 rfl (lv_at hl 0 rfl) ?_
    refine g_getR C w fl_X8_7 sth kth (by decide) kt_8_1 (fun _ _ _ => rfl) dX8_asks_23 (fun s4 k4 => ?_)
    refine lv_iconst (v := 2) C.1 C.2.1 dX8_asks_26 (by decide) ?_
    obtain ⟨hb, h⟩ := g_ob h
    refine g_iald C w s4 k4 hb dX8_asks_27 ?_
    refine lv_icmp_gt (tgt := 35) C.1 C.2.1 dX8_asks_28 (by decide) (fun hc => ?_) (fun hc => ?_)
    · have h := (if_pos hc).symm.trans h
      refine lv_iconst (v := 0) C.1 C.2.1 dX8_asks_35 (by decide) ?_
      exact B_36 _ _ _ _ _ h w (show lv_has ls 4 [(0, .ref (B + th)), (1, .int a1)] from lv_sub hl [0, 1] rfl)
    · have h := (if_neg hc).symm.trans h
      exact B_31 _ _ _ _ h w (show lv_has ls 4 [(0, .ref (B + th)), (1, .int a1)] from lv_sub hl [0, 1] rfl)

set_option maxHeartbeats 4000000 in
set_option maxRecDepth 100000 in
theorem m_X8_needs {l : Launch} {D : va_G} {cA : Nat → ClassId} {B : Nat} {S : Nat → Prop} {σ : GS} {th : Nat} {a1 : Int32} {o : Int32} (sth : S th) (kth : kdG th = 8) (h0 : F_X8_needs σ th a1 = some o) : MF l yX8_needs cX8_needs 2 (some .boolean) 1 22 D cA B S [.ref (B + th), .int a1] σ σ (some (.int o)) := by
  refine MF.of (by decide +kernel) (Nat.le_of_ble_eq_true rfl) ?_
  intro p e s m args below meth c C hr w ls hl
  have hl : lv_has ls 2 [(0, .ref (B + th)), (1, .int a1)] := hl
  have h := h0
  unfold F_X8_needs at h
  refine lv_aload_n C.1 C.2.1 dX8_needs_0 rfl (lv_at hl 0 rfl) ?_
  refine lv_iload_n C.1 C.2.1 dX8_needs_1 rfl (lv_at hl 1 rfl) ?_
  refine lv_iconst (v := 0) C.1 C.2.1 dX8_needs_2 (by decide) ?_
  obtain ⟨o1, ho1, h⟩ := g_bd h
  refine g_callV (n := 2) (As := [.int a1, .int 0]) (rest := []) C w (m_X8_of sth kth ho1) (cl_8).1 sth kth (by decide) ml_X8_217 iy_X8_of sy_X8_of in_X8 cy_X8_of ⟨rfl, by decide +kernel, by decide +kernel, by decide +kernel⟩ rfl ⟨Nat.le_of_ble_eq_true rfl, Nat.le_of_ble_eq_true rfl⟩ rfl (Nat.le_of_ble_eq_true rfl) hl.1 ⟨Nat.le_of_ble_eq_true rfl, Nat.le_of_ble_eq_true rfl⟩ dX8_needs_3 (fun H locs w => ?_)
  refine lv_iconst (v := 4) C.1 C.2.1 dX8_needs_6 (by decide) ?_
  refine lv_icmp_eq (tgt := 33) C.1 C.2.1 dX8_needs_7 (by decide) (fun hc => ?_) (fun hc => ?_)
  · have h := (if_pos hc).symm.trans h
    refine lv_iconst (v := 0) C.1 C.2.1 dX8_needs_33 (by decide) ?_
    exact g_zretP C w hr (by decide) dX8_needs_34 h
  · have h := (if_neg hc).symm.trans h
    refine lv_aload_n C.1 C.2.1 dX8_needs_10 rfl (lv_at hl 0 rfl) ?_
    refine lv_iload_n C.1 C.2.1 dX8_needs_11 rfl (lv_at hl 1 rfl) ?_
    refine lv_iconst (v := 3) C.1 C.2.1 dX8_needs_12 (by decide) ?_
    obtain ⟨o2, ho2, h⟩ := g_bd h
    refine g_callV (n := 2) (As := [.int a1, .int 3]) (rest := []) C w (m_X8_of sth kth ho2) (cl_8).1 sth kth (by decide) ml_X8_217 iy_X8_of sy_X8_of in_X8 cy_X8_of ⟨rfl, by decide +kernel, by decide +kernel, by decide +kernel⟩ rfl ⟨Nat.le_of_ble_eq_true rfl, Nat.le_of_ble_eq_true rfl⟩ rfl (Nat.le_of_ble_eq_true rfl) hl.1 ⟨Nat.le_of_ble_eq_true rfl, Nat.le_of_ble_eq_true rfl⟩ dX8_needs_13 (fun H locs w => ?_)
    refine lv_iconst (v := (-1)) C.1 C.2.1 dX8_needs_16 (by decide) ?_
    refine lv_icmp_eq (tgt := 33) C.1 C.2.1 dX8_needs_17 (by decide) (fun hc => ?_) (fun hc => ?_)
    · have h := (if_pos hc).symm.trans h
      refine lv_iconst (v := 0) C.1 C.2.1 dX8_needs_33 (by decide) ?_
      exact g_zretP C w hr (by decide) dX8_needs_34 h
    · have h := (if_neg hc).symm.trans h
      refine lv_aload_n C.1 C.2.1 dX8_needs_20 rfl (lv_at hl 0 rfl) ?_
      refine lv_iload_n C.1 C.2.1 dX8_needs_21 rfl (lv_at hl 1 rfl) ?_
      refine lv_iconst (v := 4) C.1 C.2.1 dX8_needs_22 (by decide) ?_
      obtain ⟨o3, ho3, h⟩ := g_bd h
      refine g_callV (n := 2) (As := [.int a1, .int 4]) (rest := []) C w (m_X8_of sth kth ho3) (cl_8).1 sth kth (by decide) ml_X8_217 iy_X8_of sy_X8_of in_X8 cy_X8_of ⟨rfl, by decide +kernel, by decide +kernel, by decide +kernel⟩ rfl ⟨Nat.le_of_ble_eq_true rfl, Nat.le_of_ble_eq_true rfl⟩ rfl (Nat.le_of_ble_eq_true rfl) hl.1 ⟨Nat.le_of_ble_eq_true rfl, Nat.le_of_ble_eq_true rfl⟩ dX8_needs_23 (fun H locs w => ?_)
      refine lv_if_le (tgt := 33) C.1 C.2.1 dX8_needs_26 (by decide) (fun hc => ?_) (fun hc => ?_)
      · have h := (if_pos hc).symm.trans h
        refine lv_iconst (v := 0) C.1 C.2.1 dX8_needs_33 (by decide) ?_
        exact g_zretP C w hr (by decide) dX8_needs_34 h
      · have h := (if_neg hc).symm.trans h
        refine lv_iconst (v := 1) C.1 C.2.1 dX8_needs_29 (by decide) ?_
        refine lv_goto (tgt := 34) C.1 C.2.1 dX8_needs_30 (by decide) ?_
        exact g_zretP C w hr (by decide) dX8_needs_34 h

set_option maxHeartbeats 4000000 in
set_option maxRecDepth 100000 in
theorem m_X8_gets {l : Launch} {D : va_G} {cA : Nat → ClassId} {B : Nat} {S : Nat → Prop} {σ : GS} {th : Nat} {a1 : Int32} {a2 : Int32} {o : GS × Int32} (sth : S th) (kth : kdG th = 8) (h0 : F_X8_gets σ th a1 a2 = some o) : MF l yX8_gets cX8_gets 4 (some .int) 1 23 D cA B S [.ref (B + th), .int a1, .int a2] σ o.1 (some (.int o.2)) := by
  refine MF.of (by decide +kernel) (Nat.le_of_ble_eq_true rfl) ?_
  intro p e s m args below meth c C hr w ls hl
  have hl : lv_has ls 4 [(0, .ref (B + th)), (1, .int a1), (2, .int a2)] := hl
  have B_20 : ∀ (σ : GS) (u0 : Int32) (H : Heap) (locs : List Loc) (ls : Array Slot), J_X8_gets_20 th a1 a2 σ u0 = some o → WS D cA B S σ s H locs → lv_has ls 4 [(0, .ref (B + th)), (1, .int a1)] → W p l e (rmF 1 23) s m args below meth c H locs 0 0 (MQ below (QF D cA B S o.1 (some (.int o.2))) args s 0 0 (AB B S)) (F0 m 20 ls [.int u0]) := by
    intro σ u0 H locs ls h  w hl
    unfold J_X8_gets_20 at h
    refine lv_istore_n (lv' := [(3, .int u0), (0, .ref (B + th)), (1, .int a1)]) C.1 C.2.1 dX8_gets_20 rfl hl (by decide) rfl (fun ls hl => ?_)
    refine lv_aload_n C.1 C.2.1 dX8_gets_21 rfl (lv_at hl 1 rfl) ?_
    refine lv_iload_n C.1 C.2.1 dX8_gets_22 rfl (lv_at hl 2 rfl) ?_
    refine lv_iconst (v := 4) C.1 C.2.1 dX8_gets_23 (by decide) ?_
    refine lv_iload_n C.1 C.2.1 dX8_gets_24 rfl (lv_at hl 0 rfl) ?_
    refine lv_ineg C.1 C.2.1 dX8_gets_25 ?_
    obtain ⟨o3, ho3, h⟩ := g_bd h
    refine g_callV (n := 3) (As := [.int a1, .int 4, .int (-u0)]) (rest := []) C w (m_X8_adds sth kth ho3) (cl_8).1 sth kth (by decide) ml_X8_242 iy_X8_adds sy_X8_adds in_X8 cy_X8_adds ⟨rfl, by decide +kernel, by decide +kernel, by decide +kernel⟩ rfl ⟨Nat.le_of_ble_eq_true rfl, Nat.le_of_ble_eq_true rfl⟩ rfl (Nat.le_of_ble_eq_true rfl) hl.1 ⟨Nat.le_of_ble_eq_true rfl, Nat.le_of_ble_eq_true rfl⟩ dX8_gets_26 (fun H locs w => ?_)
    refine lv_aload_n C.1 C.2.1 dX8_gets_29 rfl (lv_at hl 1 rfl) ?_
    refine lv_iload_n C.1 C.2.1 dX8_gets_30 rfl (lv_at hl 2 rfl) ?_
    refine lv_bipush (v := 10) C.1 C.2.1 dX8_gets_31 (by decide) ?_
    refine lv_iload_n C.1 C.2.1 dX8_gets_33 rfl (lv_at hl 0 rfl) ?_
    obtain ⟨o4, ho4, h⟩ := g_bd h
    refine g_callV (n := 3) (As := [.int a1, .int 10, .int u0]) (rest := []) C w (m_X8_adds sth kth ho4) (cl_8).1 sth kth (by decide) ml_X8_242 iy_X8_adds sy_X8_adds in_X8 cy_X8_adds ⟨rfl, by decide +kernel, by decide +kernel, by decide +kernel⟩ rfl ⟨Nat.le_of_ble_eq_true rfl, Nat.le_of_ble_eq_true rfl⟩ rfl (Nat.le_of_ble_eq_true rfl) hl.1 ⟨Nat.le_of_ble_eq_true rfl, Nat.le_of_ble_eq_true rfl⟩ dX8_gets_34 (fun H locs w => ?_)
    refine lv_iload_n C.1 C.2.1 dX8_gets_37 rfl (lv_at hl 0 rfl) ?_
    exact g_iretB C w hr dX8_gets_38 h
  have h := h0
  unfold F_X8_gets at h
  refine lv_iload_n C.1 C.2.1 dX8_gets_0 rfl (lv_at hl 2 rfl) ?_
  refine lv_aload_n C.1 C.2.1 dX8_gets_1 rfl (lv_at hl 0 rfl) ?_
  refine lv_iload_n C.1 C.2.1 dX8_gets_2 rfl (lv_at hl 1 rfl) ?_
  refine lv_iconst (v := 4) C.1 C.2.1 dX8_gets_3 (by decide) ?_
  obtain ⟨o1, ho1, h⟩ := g_bd h
  refine g_callV (n := 2) (As := [.int a1, .int 4]) (rest := [.int a2]) C w (m_X8_of sth kth ho1) (cl_8).1 sth kth (by decide) ml_X8_217 iy_X8_of sy_X8_of in_X8 cy_X8_of ⟨rfl, by decide +kernel, by decide +kernel, by decide +kernel⟩ rfl ⟨Nat.le_of_ble_eq_true rfl, Nat.le_of_ble_eq_true rfl⟩ rfl (Nat.le_of_ble_eq_true rfl) hl.1 ⟨Nat.le_of_ble_eq_true rfl, Nat.le_of_ble_eq_true rfl⟩ dX8_gets_4 (fun H locs w => ?_)
  refine lv_icmp_ge (tgt := 14) C.1 C.2.1 dX8_gets_7 (by decide) (fun hc => ?_) (fun hc => ?_)
  · have h := (if_pos hc).symm.trans h
    refine lv_aload_n C.1 C.2.1 dX8_gets_14 rfl (lv_at hl 0 rfl) ?_
    refine lv_iload_n C.1 C.2.1 dX8_gets_15 rfl (lv_at hl 1 rfl) ?_
    refine lv_iconst (v := 4) C.1 C.2.1 dX8_gets_16 (by decide) ?_
    obtain ⟨o2, ho2, h⟩ := g_bd h
    refine g_callV (n := 2) (As := [.int a1, .int 4]) (rest := []) C w (m_X8_of sth kth ho2) (cl_8).1 sth kth (by decide) ml_X8_217 iy_X8_of sy_X8_of in_X8 cy_X8_of ⟨rfl, by decide +kernel, by decide +kernel, by decide +kernel⟩ rfl ⟨Nat.le_of_ble_eq_true rfl, Nat.le_of_ble_eq_true rfl⟩ rfl (Nat.le_of_ble_eq_true rfl) hl.1 ⟨Nat.le_of_ble_eq_true rfl, Nat.le_of_ble_eq_true rfl⟩ dX8_gets_17 (fun H locs w => ?_)
    exact B_20 _ _ _ _ _ h w (show lv_has ls 4 [(0, .ref (B + th)), (1, .int a1)] from lv_sub hl [0, 1] rfl)
  · have h := (if_neg hc).symm.trans h
    refine lv_iload_n C.1 C.2.1 dX8_gets_10 rfl (lv_at hl 2 rfl) ?_
    refine lv_goto (tgt := 20) C.1 C.2.1 dX8_gets_11 (by decide) ?_
    exact B_20 _ _ _ _ _ h w (show lv_has ls 4 [(0, .ref (B + th)), (1, .int a1)] from lv_sub hl [0, 1] rfl)

set_option maxHeartbeats 4000000 in
set_option maxRecDepth 100000 in
theorem m_X8_weights {l : Launch} {D : va_G} {cA : Nat → ClassId} {B : Nat} {S : Nat → Prop} {σ : GS} {th : Nat} {o : Int32} (sth : S th) (kth : kdG th = 8) (h0 : F_X8_weights σ th = some o) : MF l yX8_weights cX8_weights 3 (some .int) 2 43 D cA B S [.ref (B + th)] σ σ (some (.int o)) := by
  refine MF.of (by decide +kernel) (Nat.le_of_ble_eq_true rfl) ?_
  intro p e s m args below meth c C hr w ls hl
  have hl : lv_has ls 3 [(0, .ref (B + th))] := hl
  have B_4 : ∀ (n4 : Nat) (v1 : Int32) (v2 : Int32) (H : Heap) (locs : List Loc) (ls : Array Slot), L_X8_weights_4 th n4 σ v1 v2 = some o → WS D cA B S σ s H locs → lv_has ls 3 [(0, .ref (B + th)), (1, .int v1), (2, .int v2)] → W p l e (rmF 2 43) s m args below meth c H locs 0 0 (MQ below (QF D cA B S σ (some (.int o))) args s 0 0 (AB B S)) (F0 m 4 ls []) := by
    intro n4
    induction n4 with
    | zero => intro  v1 v2 H locs ls h; exact nomatch (show (none : Option (Int32)) = some o from h)
    | succ n4 ih4 =>
      intro  v1 v2 H locs ls h  w hl
      unfold L_X8_weights_4 at h
      refine lv_iload_n C.1 C.2.1 dX8_weights_4 rfl (lv_at hl 2 rfl) ?_
      refine lv_aload_n C.1 C.2.1 dX8_weights_5 rfl (lv_at hl 0 rfl) ?_
      refine g_getR C w fl_X8_7 sth kth (by decide) kt_8_1 (fun _ _ _ => rfl) dX8_weights_6 (fun s1 k1 => ?_)
      refine lv_iconst (v := 4) C.1 C.2.1 dX8_weights_9 (by decide) ?_
      obtain ⟨hb, h⟩ := g_ob h
      refine g_iald C w s1 k1 hb dX8_weights_10 ?_
      refine lv_icmp_ge (tgt := 42) C.1 C.2.1 dX8_weights_11 (by decide) (fun hc => ?_) (fun hc => ?_)
      · have h := (if_pos hc).symm.trans h
        refine lv_iload_n C.1 C.2.1 dX8_weights_42 rfl (lv_at hl 1 rfl) ?_
        exact g_iretP C w hr dX8_weights_43 h
      · have h := (if_neg hc).symm.trans h
        refine lv_iload_n C.1 C.2.1 dX8_weights_14 rfl (lv_at hl 1 rfl) ?_
        refine lv_aload_n C.1 C.2.1 dX8_weights_15 rfl (lv_at hl 0 rfl) ?_
        refine lv_iload_n C.1 C.2.1 dX8_weights_16 rfl (lv_at hl 2 rfl) ?_
        obtain ⟨o2, ho2, h⟩ := g_bd h
        refine g_callV (n := 1) (As := [.int v2]) (rest := [.int v1]) C w (m_X8_needs sth kth ho2) (cl_8).1 sth kth (by decide) ml_X8_245 iy_X8_needs sy_X8_needs in_X8 cy_X8_needs ⟨rfl, by decide +kernel, by decide +kernel, by decide +kernel⟩ rfl ⟨Nat.le_of_ble_eq_true rfl, Nat.le_of_ble_eq_true rfl⟩ rfl (Nat.le_of_ble_eq_true rfl) hl.1 ⟨Nat.le_of_ble_eq_true rfl, Nat.le_of_ble_eq_true rfl⟩ dX8_weights_17 (fun H locs w => ?_)
        refine lv_if_eq (tgt := 33) C.1 C.2.1 dX8_weights_20 (by decide) (fun hc => ?_) (fun hc => ?_)
        · have h := (if_pos hc).symm.trans h
          refine lv_iconst (v := 0) C.1 C.2.1 dX8_weights_33 (by decide) ?_
          refine lv_iadd C.1 C.2.1 dX8_weights_34 ?_
          refine lv_istore_n (lv' := [(1, .int (v1 + 0)), (0, .ref (B + th)), (2, .int v2)]) C.1 C.2.1 dX8_weights_35 rfl hl (by decide) rfl (fun ls hl => ?_)
          refine lv_iinc (k := 2) (v := v2 + 1) (lv' := [(2, .int (v2 + 1)), (1, .int (v1 + 0)), (0, .ref (B + th))]) C.1 C.2.1 dX8_weights_36 hl rfl rfl (by decide) rfl (fun ls hl => ?_)
          refine lv_goto (tgt := 4) C.1 C.2.1 dX8_weights_39 (by decide) ?_
          exact ih4 _ _ _ _ _ h w (show lv_has ls 3 [(0, .ref (B + th)), (1, .int (v1 + 0)), (2, .int (v2 + 1))] from lv_sub hl [2, 1, 0] rfl)
        · have h := (if_neg hc).symm.trans h
          refine lv_aload_n C.1 C.2.1 dX8_weights_23 rfl (lv_at hl 0 rfl) ?_
          refine lv_iload_n C.1 C.2.1 dX8_weights_24 rfl (lv_at hl 2 rfl) ?_
          refine lv_bipush (v := 13) C.1 C.2.1 dX8_weights_25 (by decide) ?_
          obtain ⟨o3, ho3, h⟩ := g_bd h
          refine g_callV (n := 2) (As := [.int v2, .int 13]) (rest := [.int v1]) C w (m_X8_of sth kth ho3) (cl_8).1 sth kth (by decide) ml_X8_217 iy_X8_of sy_X8_of in_X8 cy_X8_of ⟨rfl, by decide +kernel, by decide +kernel, by decide +kernel⟩ rfl ⟨Nat.le_of_ble_eq_true rfl, Nat.le_of_ble_eq_true rfl⟩ rfl (Nat.le_of_ble_eq_true rfl) hl.1 ⟨Nat.le_of_ble_eq_true rfl, Nat.le_of_ble_eq_true rfl⟩ dX8_weights_27 (fun H locs w => ?_)
          refine lv_goto (tgt := 34) C.1 C.2.1 dX8_weights_30 (by decide) ?_
          refine lv_iadd C.1 C.2.1 dX8_weights_34 ?_
          refine lv_istore_n (lv' := [(1, .int (v1 + o3)), (0, .ref (B + th)), (2, .int v2)]) C.1 C.2.1 dX8_weights_35 rfl hl (by decide) rfl (fun ls hl => ?_)
          refine lv_iinc (k := 2) (v := v2 + 1) (lv' := [(2, .int (v2 + 1)), (1, .int (v1 + o3)), (0, .ref (B + th))]) C.1 C.2.1 dX8_weights_36 hl rfl rfl (by decide) rfl (fun ls hl => ?_)
          refine lv_goto (tgt := 4) C.1 C.2.1 dX8_weights_39 (by decide) ?_
          exact ih4 _ _ _ _ _ h w (show lv_has ls 3 [(0, .ref (B + th)), (1, .int (v1 + o3)), (2, .int (v2 + 1))] from lv_sub hl [2, 1, 0] rfl)
  have h := h0
  unfold F_X8_weights at h
  refine lv_iconst (v := 0) C.1 C.2.1 dX8_weights_0 (by decide) ?_
  refine lv_istore_n (lv' := [(1, .int 0), (0, .ref (B + th))]) C.1 C.2.1 dX8_weights_1 rfl hl (by decide) rfl (fun ls hl => ?_)
  refine lv_iconst (v := 0) C.1 C.2.1 dX8_weights_2 (by decide) ?_
  refine lv_istore_n (lv' := [(2, .int 0), (1, .int 0), (0, .ref (B + th))]) C.1 C.2.1 dX8_weights_3 rfl hl (by decide) rfl (fun ls hl => ?_)
  exact B_4 _ _ _ _ _ _ h w (show lv_has ls 3 [(0, .ref (B + th)), (1, .int 0), (2, .int 0)] from lv_sub hl [2, 1, 0] rfl)

set_option maxHeartbeats 4000000 in
set_option maxRecDepth 100000 in
theorem m_X8_givesByWeights {l : Launch} {D : va_G} {cA : Nat → ClassId} {B : Nat} {S : Nat → Prop} {σ : GS} {th : Nat} {a1 : Int32} {a2 : Int32} {o : GS × Int32} (sth : S th) (kth : kdG th = 8) (h0 : F_X8_givesByWeights σ th a1 a2 = some o) : MF l yX8_givesByWeights cX8_givesByWeights 5 (some .int) 2 46 D cA B S [.ref (B + th), .int a1, .int a2] σ o.1 (some (.int o.2)) := by
  refine MF.of (by decide +kernel) (Nat.le_of_ble_eq_true rfl) ?_
  intro p e s m args below meth c C hr w ls hl
  have hl : lv_has ls 5 [(0, .ref (B + th)), (1, .int a1), (2, .int a2)] := hl
  have B_5 : ∀ (n5 : Nat) (σ : GS) (v3 : Int32) (v4 : Int32) (H : Heap) (locs : List Loc) (ls : Array Slot), L_X8_givesByWeights_5 th a1 a2 n5 σ v3 v4 = some o → WS D cA B S σ s H locs → lv_has ls 5 [(0, .ref (B + th)), (1, .int a1), (2, .int a2), (3, .int v3), (4, .int v4)] → W p l e (rmF 2 46) s m args below meth c H locs 0 0 (MQ below (QF D cA B S o.1 (some (.int o.2))) args s 0 0 (AB B S)) (F0 m 5 ls []) := by
    intro n5
    induction n5 with
    | zero => intro σ v3 v4 H locs ls h; exact nomatch (show (none : Option (GS × Int32)) = some o from h)
    | succ n5 ih5 =>
      intro σ v3 v4 H locs ls h  w hl
      unfold L_X8_givesByWeights_5 at h
      refine lv_iload C.1 C.2.1 dX8_givesByWeights_5 (lv_at hl 4 rfl) ?_
      refine lv_aload_n C.1 C.2.1 dX8_givesByWeights_7 rfl (lv_at hl 0 rfl) ?_
      refine g_getR C w fl_X8_7 sth kth (by decide) kt_8_1 (fun _ _ _ => rfl) dX8_givesByWeights_8 (fun s1 k1 => ?_)
      refine lv_iconst (v := 4) C.1 C.2.1 dX8_givesByWeights_11 (by decide) ?_
      obtain ⟨hb, h⟩ := g_ob h
      refine g_iald C w s1 k1 hb dX8_givesByWeights_12 ?_
      refine lv_icmp_ge (tgt := 56) C.1 C.2.1 dX8_givesByWeights_13 (by decide) (fun hc => ?_) (fun hc => ?_)
      · have h := (if_pos hc).symm.trans h
        refine lv_iload_n C.1 C.2.1 dX8_givesByWeights_56 rfl (lv_at hl 3 rfl) ?_
        exact g_iretB C w hr dX8_givesByWeights_57 h
      · have h := (if_neg hc).symm.trans h
        refine lv_iload_n C.1 C.2.1 dX8_givesByWeights_16 rfl (lv_at hl 3 rfl) ?_
        refine lv_aload_n C.1 C.2.1 dX8_givesByWeights_17 rfl (lv_at hl 0 rfl) ?_
        refine lv_iload C.1 C.2.1 dX8_givesByWeights_18 (lv_at hl 4 rfl) ?_
        obtain ⟨o2, ho2, h⟩ := g_bd h
        refine g_callV (n := 1) (As := [.int v4]) (rest := [.int v3]) C w (m_X8_needs sth kth ho2) (cl_8).1 sth kth (by decide) ml_X8_245 iy_X8_needs sy_X8_needs in_X8 cy_X8_needs ⟨rfl, by decide +kernel, by decide +kernel, by decide +kernel⟩ rfl ⟨Nat.le_of_ble_eq_true rfl, Nat.le_of_ble_eq_true rfl⟩ rfl (Nat.le_of_ble_eq_true rfl) hl.1 ⟨Nat.le_of_ble_eq_true rfl, Nat.le_of_ble_eq_true rfl⟩ dX8_givesByWeights_20 (fun H locs w => ?_)
        refine lv_if_eq (tgt := 47) C.1 C.2.1 dX8_givesByWeights_23 (by decide) (fun hc => ?_) (fun hc => ?_)
        · have h := (if_pos hc).symm.trans h
          refine lv_iconst (v := 0) C.1 C.2.1 dX8_givesByWeights_47 (by decide) ?_
          refine lv_iadd C.1 C.2.1 dX8_givesByWeights_48 ?_
          refine lv_istore_n (lv' := [(3, .int (v3 + 0)), (0, .ref (B + th)), (1, .int a1), (2, .int a2), (4, .int v4)]) C.1 C.2.1 dX8_givesByWeights_49 rfl hl (by decide) rfl (fun ls hl => ?_)
          refine lv_iinc (k := 4) (v := v4 + 1) (lv' := [(4, .int (v4 + 1)), (3, .int (v3 + 0)), (0, .ref (B + th)), (1, .int a1), (2, .int a2)]) C.1 C.2.1 dX8_givesByWeights_50 hl rfl rfl (by decide) rfl (fun ls hl => ?_)
          refine lv_goto (tgt := 5) C.1 C.2.1 dX8_givesByWeights_53 (by decide) ?_
          exact ih5 _ _ _ _ _ _ h w (show lv_has ls 5 [(0, .ref (B + th)), (1, .int a1), (2, .int a2), (3, .int (v3 + 0)), (4, .int (v4 + 1))] from lv_sub hl [2, 3, 4, 1, 0] rfl)
        · have h := (if_neg hc).symm.trans h
          refine lv_aload_n C.1 C.2.1 dX8_givesByWeights_26 rfl (lv_at hl 0 rfl) ?_
          refine lv_iload C.1 C.2.1 dX8_givesByWeights_27 (lv_at hl 4 rfl) ?_
          refine lv_iload_n C.1 C.2.1 dX8_givesByWeights_29 rfl (lv_at hl 1 rfl) ?_
          refine lv_aload_n C.1 C.2.1 dX8_givesByWeights_30 rfl (lv_at hl 0 rfl) ?_
          refine lv_iload C.1 C.2.1 dX8_givesByWeights_31 (lv_at hl 4 rfl) ?_
          refine lv_bipush (v := 13) C.1 C.2.1 dX8_givesByWeights_33 (by decide) ?_
          obtain ⟨o3, ho3, h⟩ := g_bd h
          refine g_callV (n := 2) (As := [.int v4, .int 13]) (rest := [.int a1, .int v4, .ref (B + th), .int v3]) C w (m_X8_of sth kth ho3) (cl_8).1 sth kth (by decide) ml_X8_217 iy_X8_of sy_X8_of in_X8 cy_X8_of ⟨rfl, by decide +kernel, by decide +kernel, by decide +kernel⟩ rfl ⟨Nat.le_of_ble_eq_true rfl, Nat.le_of_ble_eq_true rfl⟩ rfl (Nat.le_of_ble_eq_true rfl) hl.1 ⟨Nat.le_of_ble_eq_true rfl, Nat.le_of_ble_eq_true rfl⟩ dX8_givesByWeights_35 (fun H locs w => ?_)
          refine lv_imul C.1 C.2.1 dX8_givesByWeights_38 ?_
          refine lv_iload_n C.1 C.2.1 dX8_givesByWeights_39 rfl (lv_at hl 2 rfl) ?_
          obtain ⟨hb, h⟩ := g_ob h
          refine lv_idiv C.1 C.2.1 dX8_givesByWeights_40 hb ?_
          obtain ⟨o4, ho4, h⟩ := g_bd h
          refine g_callV (n := 2) (As := [.int v4, .int ((a1 * o3) / a2)]) (rest := [.int v3]) C w (m_X8_gets sth kth ho4) (cl_8).1 sth kth (by decide) ml_X8_248 iy_X8_gets sy_X8_gets in_X8 cy_X8_gets ⟨rfl, by decide +kernel, by decide +kernel, by decide +kernel⟩ rfl ⟨Nat.le_of_ble_eq_true rfl, Nat.le_of_ble_eq_true rfl⟩ rfl (Nat.le_of_ble_eq_true rfl) hl.1 ⟨Nat.le_of_ble_eq_true rfl, Nat.le_of_ble_eq_true rfl⟩ dX8_givesByWeights_41 (fun H locs w => ?_)
          refine lv_goto (tgt := 48) C.1 C.2.1 dX8_givesByWeights_44 (by decide) ?_
          refine lv_iadd C.1 C.2.1 dX8_givesByWeights_48 ?_
          refine lv_istore_n (lv' := [(3, .int (v3 + o4.2)), (0, .ref (B + th)), (1, .int a1), (2, .int a2), (4, .int v4)]) C.1 C.2.1 dX8_givesByWeights_49 rfl hl (by decide) rfl (fun ls hl => ?_)
          refine lv_iinc (k := 4) (v := v4 + 1) (lv' := [(4, .int (v4 + 1)), (3, .int (v3 + o4.2)), (0, .ref (B + th)), (1, .int a1), (2, .int a2)]) C.1 C.2.1 dX8_givesByWeights_50 hl rfl rfl (by decide) rfl (fun ls hl => ?_)
          refine lv_goto (tgt := 5) C.1 C.2.1 dX8_givesByWeights_53 (by decide) ?_
          exact ih5 _ _ _ _ _ _ h w (show lv_has ls 5 [(0, .ref (B + th)), (1, .int a1), (2, .int a2), (3, .int (v3 + o4.2)), (4, .int (v4 + 1))] from lv_sub hl [2, 3, 4, 1, 0] rfl)
  have h := h0
  unfold F_X8_givesByWeights at h
  refine lv_iconst (v := 0) C.1 C.2.1 dX8_givesByWeights_0 (by decide) ?_
  refine lv_istore_n (lv' := [(3, .int 0), (0, .ref (B + th)), (1, .int a1), (2, .int a2)]) C.1 C.2.1 dX8_givesByWeights_1 rfl hl (by decide) rfl (fun ls hl => ?_)
  refine lv_iconst (v := 0) C.1 C.2.1 dX8_givesByWeights_2 (by decide) ?_
  refine lv_istore (lv' := [(4, .int 0), (3, .int 0), (0, .ref (B + th)), (1, .int a1), (2, .int a2)]) C.1 C.2.1 dX8_givesByWeights_3 hl (by decide) rfl (fun ls hl => ?_)
  exact B_5 _ _ _ _ _ _ _ h w (show lv_has ls 5 [(0, .ref (B + th)), (1, .int a1), (2, .int a2), (3, .int 0), (4, .int 0)] from lv_sub hl [2, 3, 4, 1, 0] rfl)

set_option maxHeartbeats 4000000 in
set_option maxRecDepth 100000 in
theorem m_X8_givesOnes {l : Launch} {D : va_G} {cA : Nat → ClassId} {B : Nat} {S : Nat → Prop} {σ : GS} {th : Nat} {a1 : Int32} {o : GS × Int32} (sth : S th) (kth : kdG th = 8) (h0 : F_X8_givesOnes σ th a1 = some o) : MF l yX8_givesOnes cX8_givesOnes 4 (some .int) 2 46 D cA B S [.ref (B + th), .int a1] σ o.1 (some (.int o.2)) := by
  refine MF.of (by decide +kernel) (Nat.le_of_ble_eq_true rfl) ?_
  intro p e s m args below meth c C hr w ls hl
  have hl : lv_has ls 4 [(0, .ref (B + th)), (1, .int a1)] := hl
  have B_4 : ∀ (n4 : Nat) (σ : GS) (v2 : Int32) (v3 : Int32) (H : Heap) (locs : List Loc) (ls : Array Slot), L_X8_givesOnes_4 th a1 n4 σ v2 v3 = some o → WS D cA B S σ s H locs → lv_has ls 4 [(0, .ref (B + th)), (1, .int a1), (2, .int v2), (3, .int v3)] → W p l e (rmF 2 46) s m args below meth c H locs 0 0 (MQ below (QF D cA B S o.1 (some (.int o.2))) args s 0 0 (AB B S)) (F0 m 4 ls []) := by
    intro n4
    induction n4 with
    | zero => intro σ v2 v3 H locs ls h; exact nomatch (show (none : Option (GS × Int32)) = some o from h)
    | succ n4 ih4 =>
      intro σ v2 v3 H locs ls h  w hl
      unfold L_X8_givesOnes_4 at h
      refine lv_iload_n C.1 C.2.1 dX8_givesOnes_4 rfl (lv_at hl 3 rfl) ?_
      refine lv_aload_n C.1 C.2.1 dX8_givesOnes_5 rfl (lv_at hl 0 rfl) ?_
      refine g_getR C w fl_X8_7 sth kth (by decide) kt_8_1 (fun _ _ _ => rfl) dX8_givesOnes_6 (fun s1 k1 => ?_)
      refine lv_iconst (v := 4) C.1 C.2.1 dX8_givesOnes_9 (by decide) ?_
      obtain ⟨hb, h⟩ := g_ob h
      refine g_iald C w s1 k1 hb dX8_givesOnes_10 ?_
      refine lv_icmp_ge (tgt := 46) C.1 C.2.1 dX8_givesOnes_11 (by decide) (fun hc => ?_) (fun hc => ?_)
      · have h := (if_pos hc).symm.trans h
        refine lv_iload_n C.1 C.2.1 dX8_givesOnes_46 rfl (lv_at hl 2 rfl) ?_
        exact g_iretB C w hr dX8_givesOnes_47 h
      · have h := (if_neg hc).symm.trans h
        refine lv_iload_n C.1 C.2.1 dX8_givesOnes_14 rfl (lv_at hl 2 rfl) ?_
        refine lv_iload_n C.1 C.2.1 dX8_givesOnes_15 rfl (lv_at hl 1 rfl) ?_
        refine lv_icmp_ge (tgt := 46) C.1 C.2.1 dX8_givesOnes_16 (by decide) (fun hc => ?_) (fun hc => ?_)
        · have h := (if_pos hc).symm.trans h
          refine lv_iload_n C.1 C.2.1 dX8_givesOnes_46 rfl (lv_at hl 2 rfl) ?_
          exact g_iretB C w hr dX8_givesOnes_47 h
        · have h := (if_neg hc).symm.trans h
          refine lv_iload_n C.1 C.2.1 dX8_givesOnes_19 rfl (lv_at hl 2 rfl) ?_
          refine lv_aload_n C.1 C.2.1 dX8_givesOnes_20 rfl (lv_at hl 0 rfl) ?_
          refine lv_iload_n C.1 C.2.1 dX8_givesOnes_21 rfl (lv_at hl 3 rfl) ?_
          obtain ⟨o2, ho2, h⟩ := g_bd h
          refine g_callV (n := 1) (As := [.int v3]) (rest := [.int v2]) C w (m_X8_needs sth kth ho2) (cl_8).1 sth kth (by decide) ml_X8_245 iy_X8_needs sy_X8_needs in_X8 cy_X8_needs ⟨rfl, by decide +kernel, by decide +kernel, by decide +kernel⟩ rfl ⟨Nat.le_of_ble_eq_true rfl, Nat.le_of_ble_eq_true rfl⟩ rfl (Nat.le_of_ble_eq_true rfl) hl.1 ⟨Nat.le_of_ble_eq_true rfl, Nat.le_of_ble_eq_true rfl⟩ dX8_givesOnes_22 (fun H locs w => ?_)
          refine lv_if_eq (tgt := 37) C.1 C.2.1 dX8_givesOnes_25 (by decide) (fun hc => ?_) (fun hc => ?_)
          · have h := (if_pos hc).symm.trans h
            refine lv_iconst (v := 0) C.1 C.2.1 dX8_givesOnes_37 (by decide) ?_
            refine lv_iadd C.1 C.2.1 dX8_givesOnes_38 ?_
            refine lv_istore_n (lv' := [(2, .int (v2 + 0)), (0, .ref (B + th)), (1, .int a1), (3, .int v3)]) C.1 C.2.1 dX8_givesOnes_39 rfl hl (by decide) rfl (fun ls hl => ?_)
            refine lv_iinc (k := 3) (v := v3 + 1) (lv' := [(3, .int (v3 + 1)), (2, .int (v2 + 0)), (0, .ref (B + th)), (1, .int a1)]) C.1 C.2.1 dX8_givesOnes_40 hl rfl rfl (by decide) rfl (fun ls hl => ?_)
            refine lv_goto (tgt := 4) C.1 C.2.1 dX8_givesOnes_43 (by decide) ?_
            exact ih4 _ _ _ _ _ _ h w (show lv_has ls 4 [(0, .ref (B + th)), (1, .int a1), (2, .int (v2 + 0)), (3, .int (v3 + 1))] from lv_sub hl [2, 3, 1, 0] rfl)
          · have h := (if_neg hc).symm.trans h
            refine lv_aload_n C.1 C.2.1 dX8_givesOnes_28 rfl (lv_at hl 0 rfl) ?_
            refine lv_iload_n C.1 C.2.1 dX8_givesOnes_29 rfl (lv_at hl 3 rfl) ?_
            refine lv_iconst (v := 1) C.1 C.2.1 dX8_givesOnes_30 (by decide) ?_
            obtain ⟨o3, ho3, h⟩ := g_bd h
            refine g_callV (n := 2) (As := [.int v3, .int 1]) (rest := [.int v2]) C w (m_X8_gets sth kth ho3) (cl_8).1 sth kth (by decide) ml_X8_248 iy_X8_gets sy_X8_gets in_X8 cy_X8_gets ⟨rfl, by decide +kernel, by decide +kernel, by decide +kernel⟩ rfl ⟨Nat.le_of_ble_eq_true rfl, Nat.le_of_ble_eq_true rfl⟩ rfl (Nat.le_of_ble_eq_true rfl) hl.1 ⟨Nat.le_of_ble_eq_true rfl, Nat.le_of_ble_eq_true rfl⟩ dX8_givesOnes_31 (fun H locs w => ?_)
            refine lv_goto (tgt := 38) C.1 C.2.1 dX8_givesOnes_34 (by decide) ?_
            refine lv_iadd C.1 C.2.1 dX8_givesOnes_38 ?_
            refine lv_istore_n (lv' := [(2, .int (v2 + o3.2)), (0, .ref (B + th)), (1, .int a1), (3, .int v3)]) C.1 C.2.1 dX8_givesOnes_39 rfl hl (by decide) rfl (fun ls hl => ?_)
            refine lv_iinc (k := 3) (v := v3 + 1) (lv' := [(3, .int (v3 + 1)), (2, .int (v2 + o3.2)), (0, .ref (B + th)), (1, .int a1)]) C.1 C.2.1 dX8_givesOnes_40 hl rfl rfl (by decide) rfl (fun ls hl => ?_)
            refine lv_goto (tgt := 4) C.1 C.2.1 dX8_givesOnes_43 (by decide) ?_
            exact ih4 _ _ _ _ _ _ h w (show lv_has ls 4 [(0, .ref (B + th)), (1, .int a1), (2, .int (v2 + o3.2)), (3, .int (v3 + 1))] from lv_sub hl [2, 3, 1, 0] rfl)
  have h := h0
  unfold F_X8_givesOnes at h
  refine lv_iconst (v := 0) C.1 C.2.1 dX8_givesOnes_0 (by decide) ?_
  refine lv_istore_n (lv' := [(2, .int 0), (0, .ref (B + th)), (1, .int a1)]) C.1 C.2.1 dX8_givesOnes_1 rfl hl (by decide) rfl (fun ls hl => ?_)
  refine lv_iconst (v := 0) C.1 C.2.1 dX8_givesOnes_2 (by decide) ?_
  refine lv_istore_n (lv' := [(3, .int 0), (2, .int 0), (0, .ref (B + th)), (1, .int a1)]) C.1 C.2.1 dX8_givesOnes_3 rfl hl (by decide) rfl (fun ls hl => ?_)
  exact B_4 _ _ _ _ _ _ _ h w (show lv_has ls 4 [(0, .ref (B + th)), (1, .int a1), (2, .int 0), (3, .int 0)] from lv_sub hl [2, 3, 1, 0] rfl)

set_option maxHeartbeats 4000000 in
set_option maxRecDepth 100000 in
theorem m_X8_shares {l : Launch} {D : va_G} {cA : Nat → ClassId} {B : Nat} {S : Nat → Prop} {σ : GS} {th : Nat} {o : GS} (sth : S th) (kth : kdG th = 8) (h0 : F_X8_shares σ th = some o) : MF l yX8_shares cX8_shares 4 none 3 70 D cA B S [.ref (B + th)] σ o none := by
  refine MF.of (by decide +kernel) (Nat.le_of_ble_eq_true rfl) ?_
  intro p e s m args below meth c C hr w ls hl
  have hl : lv_has ls 4 [(0, .ref (B + th))] := hl
  have B_66 : ∀ (σ : GS) (v1 : Int32) (H : Heap) (locs : List Loc) (ls : Array Slot), J_X8_shares_66 th σ v1 = some o → WS D cA B S σ s H locs → lv_has ls 4 [(0, .ref (B + th)), (1, .int v1)] → W p l e (rmF 3 70) s m args below meth c H locs 0 0 (MQ below (QF D cA B S o none) args s 0 0 (AB B S)) (F0 m 66 ls []) := by
    intro σ v1 H locs ls h  w hl
    unfold J_X8_shares_66 at h
    refine lv_aload_n C.1 C.2.1 dX8_shares_66 rfl (lv_at hl 0 rfl) ?_
    refine g_getR C w fl_X8_17 sth kth (by decide) kt_8_3 (fun _ _ _ => rfl) dX8_shares_67 (fun s10 k10 => ?_)
    refine lv_bipush (v := 9) C.1 C.2.1 dX8_shares_70 (by decide) ?_
    refine lv_dup2_11 C.1 C.2.1 dX8_shares_72 rfl rfl ?_
    obtain ⟨hb, h⟩ := g_ob h
    refine g_iald C w s10 k10 hb dX8_shares_73 ?_
    refine lv_iload_n C.1 C.2.1 dX8_shares_74 rfl (lv_at hl 1 rfl) ?_
    refine lv_isub C.1 C.2.1 dX8_shares_75 ?_
    obtain ⟨hb, h⟩ := g_ob h
    refine g_iast C w s10 k10 hb dX8_shares_76 (fun H locs w => ?_)
    refine lv_aload_n C.1 C.2.1 dX8_shares_77 rfl (lv_at hl 0 rfl) ?_
    refine g_getR C w fl_X8_17 sth kth (by decide) kt_8_3 (fun _ _ _ => rfl) dX8_shares_78 (fun s12 k12 => ?_)
    refine lv_bipush (v := 10) C.1 C.2.1 dX8_shares_81 (by decide) ?_
    refine lv_dup2_11 C.1 C.2.1 dX8_shares_83 rfl rfl ?_
    obtain ⟨hb, h⟩ := g_ob h
    refine g_iald C w s12 k12 hb dX8_shares_84 ?_
    refine lv_iload_n C.1 C.2.1 dX8_shares_85 rfl (lv_at hl 1 rfl) ?_
    refine lv_iadd C.1 C.2.1 dX8_shares_86 ?_
    obtain ⟨hb, h⟩ := g_ob h
    refine g_iast C w s12 k12 hb dX8_shares_87 (fun H locs w => ?_)
    exact g_vretV C w hr dX8_shares_88 h
  have B_27 : ∀ (n27 : Nat) (σ : GS) (v1 : Int32) (v2 : Int32) (H : Heap) (locs : List Loc) (ls : Array Slot), L_X8_shares_27 th n27 σ v1 v2 = some o → WS D cA B S σ s H locs → lv_has ls 4 [(0, .ref (B + th)), (1, .int v1), (2, .int v2)] → W p l e (rmF 3 70) s m args below meth c H locs 0 0 (MQ below (QF D cA B S o none) args s 0 0 (AB B S)) (F0 m 27 ls []) := by
    intro n27
    induction n27 with
    | zero => intro σ v1 v2 H locs ls h; exact nomatch (show (none : Option (GS)) = some o from h)
    | succ n27 ih27 =>
      intro σ v1 v2 H locs ls h  w hl
      unfold L_X8_shares_27 at h
      refine lv_iload_n C.1 C.2.1 dX8_shares_27 rfl (lv_at hl 1 rfl) ?_
      refine lv_if_le (tgt := 66) C.1 C.2.1 dX8_shares_28 (by decide) (fun hc => ?_) (fun hc => ?_)
      · have h := (if_pos hc).symm.trans h
        exact B_66 _ _ _ _ _ h w (show lv_has ls 4 [(0, .ref (B + th)), (1, .int v1)] from lv_sub hl [0, 1] rfl)
      · have h := (if_neg hc).symm.trans h
        refine lv_iload_n C.1 C.2.1 dX8_shares_31 rfl (lv_at hl 2 rfl) ?_
        refine lv_if_le (tgt := 66) C.1 C.2.1 dX8_shares_32 (by decide) (fun hc => ?_) (fun hc => ?_)
        · have h := (if_pos hc).symm.trans h
          exact B_66 _ _ _ _ _ h w (show lv_has ls 4 [(0, .ref (B + th)), (1, .int v1)] from lv_sub hl [0, 1] rfl)
        · have h := (if_neg hc).symm.trans h
          refine lv_aload_n C.1 C.2.1 dX8_shares_35 rfl (lv_at hl 0 rfl) ?_
          refine lv_iload_n C.1 C.2.1 dX8_shares_36 rfl (lv_at hl 1 rfl) ?_
          refine lv_iload_n C.1 C.2.1 dX8_shares_37 rfl (lv_at hl 2 rfl) ?_
          obtain ⟨o6, ho6, h⟩ := g_bd h
          refine g_callV (n := 2) (As := [.int v1, .int v2]) (rest := []) C w (m_X8_givesByWeights sth kth ho6) (cl_8).1 sth kth (by decide) ml_X8_257 iy_X8_givesByWeights sy_X8_givesByWeights in_X8 cy_X8_givesByWeights ⟨rfl, by decide +kernel, by decide +kernel, by decide +kernel⟩ rfl ⟨Nat.le_of_ble_eq_true rfl, Nat.le_of_ble_eq_true rfl⟩ rfl (Nat.le_of_ble_eq_true rfl) hl.1 ⟨Nat.le_of_ble_eq_true rfl, Nat.le_of_ble_eq_true rfl⟩ dX8_shares_38 (fun H locs w => ?_)
          refine lv_istore_n (lv' := [(3, .int o6.2), (0, .ref (B + th)), (1, .int v1), (2, .int v2)]) C.1 C.2.1 dX8_shares_41 rfl hl (by decide) rfl (fun ls hl => ?_)
          refine lv_iload_n C.1 C.2.1 dX8_shares_42 rfl (lv_at hl 2 rfl) ?_
          refine lv_iload_n C.1 C.2.1 dX8_shares_43 rfl (lv_at hl 0 rfl) ?_
          refine lv_if_le (tgt := 51) C.1 C.2.1 dX8_shares_44 (by decide) (fun hc => ?_) (fun hc => ?_)
          · have h := (if_pos hc).symm.trans h
            refine lv_aload_n C.1 C.2.1 dX8_shares_51 rfl (lv_at hl 1 rfl) ?_
            refine lv_iload_n C.1 C.2.1 dX8_shares_52 rfl (lv_at hl 2 rfl) ?_
            obtain ⟨o7, ho7, h⟩ := g_bd h
            refine g_callV (n := 1) (As := [.int v1]) (rest := [.int v1]) C w (m_X8_givesOnes sth kth ho7) (cl_8).1 sth kth (by decide) ml_X8_260 iy_X8_givesOnes sy_X8_givesOnes in_X8 cy_X8_givesOnes ⟨rfl, by decide +kernel, by decide +kernel, by decide +kernel⟩ rfl ⟨Nat.le_of_ble_eq_true rfl, Nat.le_of_ble_eq_true rfl⟩ rfl (Nat.le_of_ble_eq_true rfl) hl.1 ⟨Nat.le_of_ble_eq_true rfl, Nat.le_of_ble_eq_true rfl⟩ dX8_shares_53 (fun H locs w => ?_)
            refine lv_isub C.1 C.2.1 dX8_shares_56 ?_
            refine lv_istore_n (lv' := [(1, .int (v1 - o7.2)), (3, .int o6.2), (0, .ref (B + th)), (2, .int v2)]) C.1 C.2.1 dX8_shares_57 rfl hl (by decide) rfl (fun ls hl => ?_)
            refine lv_aload_n C.1 C.2.1 dX8_shares_58 rfl (lv_at hl 2 rfl) ?_
            obtain ⟨o8, ho8, h⟩ := g_bd h
            refine g_callV (n := 0) (As := []) (rest := []) C w (m_X8_weights sth kth ho8) (cl_8).1 sth kth (by decide) ml_X8_254 iy_X8_weights sy_X8_weights in_X8 cy_X8_weights ⟨rfl, by decide +kernel, by decide +kernel, by decide +kernel⟩ rfl ⟨Nat.le_of_ble_eq_true rfl, Nat.le_of_ble_eq_true rfl⟩ rfl (Nat.le_of_ble_eq_true rfl) hl.1 ⟨Nat.le_of_ble_eq_true rfl, Nat.le_of_ble_eq_true rfl⟩ dX8_shares_59 (fun H locs w => ?_)
            refine lv_istore_n (lv' := [(2, .int o8), (1, .int (v1 - o7.2)), (3, .int o6.2), (0, .ref (B + th))]) C.1 C.2.1 dX8_shares_62 rfl hl (by decide) rfl (fun ls hl => ?_)
            refine lv_goto (tgt := 27) C.1 C.2.1 dX8_shares_63 (by decide) ?_
            exact ih27 _ _ _ _ _ _ h w (show lv_has ls 4 [(0, .ref (B + th)), (1, .int (v1 - o7.2)), (2, .int o8)] from lv_sub hl [3, 1, 0] rfl)
          · have h := (if_neg hc).symm.trans h
            refine lv_iload_n C.1 C.2.1 dX8_shares_47 rfl (lv_at hl 0 rfl) ?_
            refine lv_goto (tgt := 56) C.1 C.2.1 dX8_shares_48 (by decide) ?_
            refine lv_isub C.1 C.2.1 dX8_shares_56 ?_
            refine lv_istore_n (lv' := [(1, .int (v1 - o6.2)), (3, .int o6.2), (0, .ref (B + th)), (2, .int v2)]) C.1 C.2.1 dX8_shares_57 rfl hl (by decide) rfl (fun ls hl => ?_)
            refine lv_aload_n C.1 C.2.1 dX8_shares_58 rfl (lv_at hl 2 rfl) ?_
            obtain ⟨o9, ho9, h⟩ := g_bd h
            refine g_callV (n := 0) (As := []) (rest := []) C w (m_X8_weights sth kth ho9) (cl_8).1 sth kth (by decide) ml_X8_254 iy_X8_weights sy_X8_weights in_X8 cy_X8_weights ⟨rfl, by decide +kernel, by decide +kernel, by decide +kernel⟩ rfl ⟨Nat.le_of_ble_eq_true rfl, Nat.le_of_ble_eq_true rfl⟩ rfl (Nat.le_of_ble_eq_true rfl) hl.1 ⟨Nat.le_of_ble_eq_true rfl, Nat.le_of_ble_eq_true rfl⟩ dX8_shares_59 (fun H locs w => ?_)
            refine lv_istore_n (lv' := [(2, .int o9), (1, .int (v1 - o6.2)), (3, .int o6.2), (0, .ref (B + th))]) C.1 C.2.1 dX8_shares_62 rfl hl (by decide) rfl (fun ls hl => ?_)
            refine lv_goto (tgt := 27) C.1 C.2.1 dX8_shares_63 (by decide) ?_
            exact ih27 _ _ _ _ _ _ h w (show lv_has ls 4 [(0, .ref (B + th)), (1, .int (v1 - o6.2)), (2, .int o9)] from lv_sub hl [3, 1, 0] rfl)
  have h := h0
  unfold F_X8_shares at h
  refine lv_aload_n C.1 C.2.1 dX8_shares_0 rfl (lv_at hl 0 rfl) ?_
  refine lv_aload_n C.1 C.2.1 dX8_shares_1 rfl (lv_at hl 0 rfl) ?_
  refine g_getR C w fl_X8_17 sth kth (by decide) kt_8_3 (fun _ _ _ => rfl) dX8_shares_2 (fun s1 k1 => ?_)
  refine lv_iconst (v := 0) C.1 C.2.1 dX8_shares_5 (by decide) ?_
  obtain ⟨hb, h⟩ := g_ob h
  refine g_iald C w s1 k1 hb dX8_shares_6 ?_
  obtain ⟨o2, ho2, h⟩ := g_bd h
  refine g_callV (n := 1) (As := [.int (gI σ (rfG th 3) (0 : Int32).toNatClampNeg)]) (rest := []) C w (m_X8_rateAt sth kth ho2) (cl_8).1 sth kth (by decide) ml_X8_251 iy_X8_rateAt sy_X8_rateAt in_X8 cy_X8_rateAt ⟨rfl, by decide +kernel, by decide +kernel, by decide +kernel⟩ rfl ⟨Nat.le_of_ble_eq_true rfl, Nat.le_of_ble_eq_true rfl⟩ rfl (Nat.le_of_ble_eq_true rfl) hl.1 ⟨Nat.le_of_ble_eq_true rfl, Nat.le_of_ble_eq_true rfl⟩ dX8_shares_7 (fun H locs w => ?_)
  refine lv_istore_n (lv' := [(1, .int o2), (0, .ref (B + th))]) C.1 C.2.1 dX8_shares_10 rfl hl (by decide) rfl (fun ls hl => ?_)
  refine lv_aload_n C.1 C.2.1 dX8_shares_11 rfl (lv_at hl 1 rfl) ?_
  obtain ⟨o3, ho3, h⟩ := g_bd h
  refine g_callV (n := 0) (As := []) (rest := []) C w (m_X8_weights sth kth ho3) (cl_8).1 sth kth (by decide) ml_X8_254 iy_X8_weights sy_X8_weights in_X8 cy_X8_weights ⟨rfl, by decide +kernel, by decide +kernel, by decide +kernel⟩ rfl ⟨Nat.le_of_ble_eq_true rfl, Nat.le_of_ble_eq_true rfl⟩ rfl (Nat.le_of_ble_eq_true rfl) hl.1 ⟨Nat.le_of_ble_eq_true rfl, Nat.le_of_ble_eq_true rfl⟩ dX8_shares_12 (fun H locs w => ?_)
  refine lv_istore_n (lv' := [(2, .int o3), (1, .int o2), (0, .ref (B + th))]) C.1 C.2.1 dX8_shares_15 rfl hl (by decide) rfl (fun ls hl => ?_)
  refine lv_aload_n C.1 C.2.1 dX8_shares_16 rfl (lv_at hl 2 rfl) ?_
  refine g_getR C w fl_X8_17 sth kth (by decide) kt_8_3 (fun _ _ _ => rfl) dX8_shares_17 (fun s4 k4 => ?_)
  refine lv_bipush (v := 9) C.1 C.2.1 dX8_shares_20 (by decide) ?_
  refine lv_dup2_11 C.1 C.2.1 dX8_shares_22 rfl rfl ?_
  obtain ⟨hb, h⟩ := g_ob h
  refine g_iald C w s4 k4 hb dX8_shares_23 ?_
  refine lv_iload_n C.1 C.2.1 dX8_shares_24 rfl (lv_at hl 1 rfl) ?_
  refine lv_iadd C.1 C.2.1 dX8_shares_25 ?_
  obtain ⟨hb, h⟩ := g_ob h
  refine g_iast C w s4 k4 hb dX8_shares_26 (fun H locs w => ?_)
  exact B_27 _ _ _ _ _ _ _ h w (show lv_has ls 4 [(0, .ref (B + th)), (1, .int o2), (2, .int o3)] from lv_sub hl [2, 1, 0] rfl)

