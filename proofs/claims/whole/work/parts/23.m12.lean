set_option maxHeartbeats 4000000 in
set_option maxRecDepth 100000 in
theorem m_X8_share {l : Launch} {D : va_G} {cA : Nat → ClassId} {B : Nat} {S : Nat → Prop} {σ : GS} {th : Nat} {a1 : Int32} {o : GS × Int32} (sth : S th) (kth : kdG th = 8) (h0 : F_X8_share σ th a1 = some o) : MF l yX8_share cX8_share 4 (some .int) 6 136 D cA B S [.ref (B + th), .int a1] σ o.1 (some (.int o.2)) := by
  refine MF.of (by decide +kernel) (Nat.le_of_ble_eq_true rfl) ?_
  intro p e s m args below meth c C hr w ls hl
  have hl : lv_has ls 4 [(0, .ref (B + th)), (1, .int a1)] := hl
  have h := h0
  unfold F_X8_share at h
  refine lv_aload_n C.1 C.2.1 dX8_share_0 rfl (lv_at hl 0 rfl) ?_
  refine lv_iload_n C.1 C.2.1 dX8_share_1 rfl (lv_at hl 1 rfl) ?_
  obtain ⟨o1, ho1, h⟩ := g_bd h
  refine g_callV (n := 1) (As := [.int a1]) (rest := []) C w (m_X8_noPlayer sth kth ho1) (cl_8).1 sth kth (by decide) ml_X8_306 iy_X8_noPlayer sy_X8_noPlayer in_X8 cy_X8_noPlayer ⟨rfl, by decide +kernel, by decide +kernel, by decide +kernel⟩ rfl ⟨Nat.le_of_ble_eq_true rfl, Nat.le_of_ble_eq_true rfl⟩ rfl (Nat.le_of_ble_eq_true rfl) hl.1 ⟨Nat.le_of_ble_eq_true rfl, Nat.le_of_ble_eq_true rfl⟩ dX8_share_2 (fun H locs w => ?_)
  refine lv_if_eq (tgt := 10) C.1 C.2.1 dX8_share_5 (by decide) (fun hc => ?_) (fun hc => ?_)
  · have h := (if_pos hc).symm.trans h
    refine lv_aload_n C.1 C.2.1 dX8_share_10 rfl (lv_at hl 0 rfl) ?_
    refine lv_iload_n C.1 C.2.1 dX8_share_11 rfl (lv_at hl 1 rfl) ?_
    refine lv_bipush (v := 10) C.1 C.2.1 dX8_share_12 (by decide) ?_
    obtain ⟨o2, ho2, h⟩ := g_bd h
    refine g_callV (n := 2) (As := [.int a1, .int 10]) (rest := []) C w (m_X8_of sth kth ho2) (cl_8).1 sth kth (by decide) ml_X8_217 iy_X8_of sy_X8_of in_X8 cy_X8_of ⟨rfl, by decide +kernel, by decide +kernel, by decide +kernel⟩ rfl ⟨Nat.le_of_ble_eq_true rfl, Nat.le_of_ble_eq_true rfl⟩ rfl (Nat.le_of_ble_eq_true rfl) hl.1 ⟨Nat.le_of_ble_eq_true rfl, Nat.le_of_ble_eq_true rfl⟩ dX8_share_14 (fun H locs w => ?_)
    refine lv_istore_n (lv' := [(2, .int o2), (0, .ref (B + th)), (1, .int a1)]) C.1 C.2.1 dX8_share_17 rfl hl (by decide) rfl (fun ls hl => ?_)
    refine lv_aload_n C.1 C.2.1 dX8_share_18 rfl (lv_at hl 1 rfl) ?_
    refine g_getR C w fl_X8_17 sth kth (by decide) kt_8_3 (fun _ _ _ => rfl) dX8_share_19 (fun s3 k3 => ?_)
    refine lv_iconst (v := 0) C.1 C.2.1 dX8_share_22 (by decide) ?_
    refine lv_aload_n C.1 C.2.1 dX8_share_23 rfl (lv_at hl 1 rfl) ?_
    refine g_getR C w fl_X8_52 sth kth (by decide) kt_8_25 (fun _ _ _ => rfl) dX8_share_24 (fun s4 k4 => ?_)
    refine lv_iconst (v := 0) C.1 C.2.1 dX8_share_27 (by decide) ?_
    obtain ⟨o5, ho5, h⟩ := g_bd h
    refine g_callS (n := 4) (As := [.ref (B + (rfG th 3)), .int 0, .ref (B + (rfG th 25)), .int 0]) (rest := []) C w (m_X8_copies s3 k3 s4 k4 ho5) ml_X8_275 iy_X8_copies in_X8 cy_X8_copies ⟨by decide +kernel, by decide +kernel, by decide +kernel⟩ rfl ⟨Nat.le_of_ble_eq_true rfl, Nat.le_of_ble_eq_true rfl⟩ rfl (Nat.le_of_ble_eq_true rfl) hl.1 ⟨Nat.le_of_ble_eq_true rfl, Nat.le_of_ble_eq_true rfl⟩ dX8_share_28 (fun H locs w => ?_)
    refine lv_aload_n C.1 C.2.1 dX8_share_31 rfl (lv_at hl 1 rfl) ?_
    obtain ⟨o6, ho6, h⟩ := g_bd h
    refine g_callV (n := 0) (As := []) (rest := []) C w (m_X8_passes sth kth ho6) (cl_8).1 sth kth (by decide) ml_X8_282 iy_X8_passes sy_X8_passes in_X8 cy_X8_passes ⟨rfl, by decide +kernel, by decide +kernel, by decide +kernel⟩ rfl ⟨Nat.le_of_ble_eq_true rfl, Nat.le_of_ble_eq_true rfl⟩ rfl (Nat.le_of_ble_eq_true rfl) hl.1 ⟨Nat.le_of_ble_eq_true rfl, Nat.le_of_ble_eq_true rfl⟩ dX8_share_32 (fun H locs w => ?_)
    refine lv_aload_n C.1 C.2.1 dX8_share_35 rfl (lv_at hl 1 rfl) ?_
    refine lv_iload_n C.1 C.2.1 dX8_share_36 rfl (lv_at hl 2 rfl) ?_
    refine lv_bipush (v := 10) C.1 C.2.1 dX8_share_37 (by decide) ?_
    obtain ⟨o7, ho7, h⟩ := g_bd h
    refine g_callV (n := 2) (As := [.int a1, .int 10]) (rest := []) C w (m_X8_of sth kth ho7) (cl_8).1 sth kth (by decide) ml_X8_217 iy_X8_of sy_X8_of in_X8 cy_X8_of ⟨rfl, by decide +kernel, by decide +kernel, by decide +kernel⟩ rfl ⟨Nat.le_of_ble_eq_true rfl, Nat.le_of_ble_eq_true rfl⟩ rfl (Nat.le_of_ble_eq_true rfl) hl.1 ⟨Nat.le_of_ble_eq_true rfl, Nat.le_of_ble_eq_true rfl⟩ dX8_share_39 (fun H locs w => ?_)
    refine lv_iload_n C.1 C.2.1 dX8_share_42 rfl (lv_at hl 0 rfl) ?_
    refine lv_isub C.1 C.2.1 dX8_share_43 ?_
    refine lv_istore_n (lv' := [(3, .int (o7 - o2)), (2, .int o2), (0, .ref (B + th)), (1, .int a1)]) C.1 C.2.1 dX8_share_44 rfl hl (by decide) rfl (fun ls hl => ?_)
    refine lv_aload_n C.1 C.2.1 dX8_share_45 rfl (lv_at hl 2 rfl) ?_
    obtain ⟨o8, ho8, h⟩ := g_bd h
    refine g_callV (n := 0) (As := []) (rest := []) C w (m_X8_comesBack sth kth ho8) (cl_8).1 sth kth (by decide) ml_X8_288 iy_X8_comesBack sy_X8_comesBack in_X8 cy_X8_comesBack ⟨rfl, by decide +kernel, by decide +kernel, by decide +kernel⟩ rfl ⟨Nat.le_of_ble_eq_true rfl, Nat.le_of_ble_eq_true rfl⟩ rfl (Nat.le_of_ble_eq_true rfl) hl.1 ⟨Nat.le_of_ble_eq_true rfl, Nat.le_of_ble_eq_true rfl⟩ dX8_share_46 (fun H locs w => ?_)
    refine lv_iload_n C.1 C.2.1 dX8_share_49 rfl (lv_at hl 0 rfl) ?_
    exact g_iretB C w hr dX8_share_50 h
  · have h := (if_neg hc).symm.trans h
    refine lv_iconst (v := 0) C.1 C.2.1 dX8_share_8 (by decide) ?_
    exact g_iretB C w hr dX8_share_9 h

set_option maxHeartbeats 4000000 in
set_option maxRecDepth 100000 in
theorem m_X8_forecast {l : Launch} {D : va_G} {cA : Nat → ClassId} {B : Nat} {S : Nat → Prop} {σ : GS} {th : Nat} {a1 : Int32} {a2 : Int32} {o : GS × Int32} (sth : S th) (kth : kdG th = 8) (h0 : F_X8_forecast σ th a1 a2 = some o) : MF l yX8_forecast cX8_forecast 4 (some .int) 7 156 D cA B S [.ref (B + th), .int a1, .int a2] σ o.1 (some (.int o.2)) := by
  refine MF.of (by decide +kernel) (Nat.le_of_ble_eq_true rfl) ?_
  intro p e s m args below meth c C hr w ls hl
  have hl : lv_has ls 4 [(0, .ref (B + th)), (1, .int a1), (2, .int a2)] := hl
  have B_23 : ∀ (σ : GS) (u0 : Int32) (H : Heap) (locs : List Loc) (ls : Array Slot), J_X8_forecast_23 th a1 a2 σ u0 = some o → WS D cA B S σ s H locs → lv_has ls 4 [(0, .ref (B + th)), (1, .int a1), (2, .int a2)] → W p l e (rmF 7 156) s m args below meth c H locs 0 0 (MQ below (QF D cA B S o.1 (some (.int o.2))) args s 0 0 (AB B S)) (F0 m 23 ls [.int u0, .ref (B + th)]) := by
    intro σ u0 H locs ls h  w hl
    unfold J_X8_forecast_23 at h
    refine lv_iconst (v := 2) C.1 C.2.1 dX8_forecast_23 (by decide) ?_
    obtain ⟨o3, ho3, h⟩ := g_bd h
    refine g_callV (n := 2) (As := [.int u0, .int 2]) (rest := []) C w (m_X8_throwsIf sth kth ho3) (cl_8).1 sth kth (by decide) ml_X8_194 iy_X8_throwsIf sy_X8_throwsIf in_X8 cy_X8_throwsIf ⟨rfl, by decide +kernel, by decide +kernel, by decide +kernel⟩ rfl ⟨Nat.le_of_ble_eq_true rfl, Nat.le_of_ble_eq_true rfl⟩ rfl (Nat.le_of_ble_eq_true rfl) hl.1 ⟨Nat.le_of_ble_eq_true rfl, Nat.le_of_ble_eq_true rfl⟩ dX8_forecast_24 (fun H locs w => ?_)
    refine lv_if_eq (tgt := 32) C.1 C.2.1 dX8_forecast_27 (by decide) (fun hc => ?_) (fun hc => ?_)
    · have h := (if_pos hc).symm.trans h
      refine lv_aload_n C.1 C.2.1 dX8_forecast_32 rfl (lv_at hl 0 rfl) ?_
      obtain ⟨o4, ho4, h⟩ := g_bd h
      refine g_callV (n := 0) (As := []) (rest := []) C w (m_X8_foresees sth kth ho4) (cl_8).1 sth kth (by decide) ml_X8_285 iy_X8_foresees sy_X8_foresees in_X8 cy_X8_foresees ⟨rfl, by decide +kernel, by decide +kernel, by decide +kernel⟩ rfl ⟨Nat.le_of_ble_eq_true rfl, Nat.le_of_ble_eq_true rfl⟩ rfl (Nat.le_of_ble_eq_true rfl) hl.1 ⟨Nat.le_of_ble_eq_true rfl, Nat.le_of_ble_eq_true rfl⟩ dX8_forecast_33 (fun H locs w => ?_)
      refine lv_iload_n C.1 C.2.1 dX8_forecast_36 rfl (lv_at hl 2 rfl) ?_
      refine lv_iconst (v := 4) C.1 C.2.1 dX8_forecast_37 (by decide) ?_
      refine lv_icmp_ge (tgt := 53) C.1 C.2.1 dX8_forecast_38 (by decide) (fun hc => ?_) (fun hc => ?_)
      · have h := (if_pos hc).symm.trans h
        refine lv_iload_n C.1 C.2.1 dX8_forecast_53 rfl (lv_at hl 2 rfl) ?_
        refine lv_iconst (v := 4) C.1 C.2.1 dX8_forecast_54 (by decide) ?_
        refine lv_icmp_ne (tgt := 67) C.1 C.2.1 dX8_forecast_55 (by decide) (fun hc => ?_) (fun hc => ?_)
        · have h := (if_neg hc).symm.trans h
          refine lv_aload_n C.1 C.2.1 dX8_forecast_67 rfl (lv_at hl 0 rfl) ?_
          refine g_getR C w fl_X8_17 sth kth (by decide) kt_8_3 (fun _ _ _ => rfl) dX8_forecast_68 (fun s5 k5 => ?_)
          refine lv_iconst (v := 0) C.1 C.2.1 dX8_forecast_71 (by decide) ?_
          obtain ⟨hb, h⟩ := g_ob h
          refine g_iald C w s5 k5 hb dX8_forecast_72 ?_
          refine lv_istore_n (lv' := [(3, .int (gI o4 (rfG th 3) (0 : Int32).toNatClampNeg)), (0, .ref (B + th)), (1, .int a1), (2, .int a2)]) C.1 C.2.1 dX8_forecast_73 rfl hl (by decide) rfl (fun ls hl => ?_)
          refine lv_aload_n C.1 C.2.1 dX8_forecast_74 rfl (lv_at hl 1 rfl) ?_
          obtain ⟨o6, ho6, h⟩ := g_bd h
          refine g_callV (n := 0) (As := []) (rest := []) C w (m_X8_comesBack sth kth ho6) (cl_8).1 sth kth (by decide) ml_X8_288 iy_X8_comesBack sy_X8_comesBack in_X8 cy_X8_comesBack ⟨rfl, by decide +kernel, by decide +kernel, by decide +kernel⟩ rfl ⟨Nat.le_of_ble_eq_true rfl, Nat.le_of_ble_eq_true rfl⟩ rfl (Nat.le_of_ble_eq_true rfl) hl.1 ⟨Nat.le_of_ble_eq_true rfl, Nat.le_of_ble_eq_true rfl⟩ dX8_forecast_75 (fun H locs w => ?_)
          refine lv_iload_n C.1 C.2.1 dX8_forecast_78 rfl (lv_at hl 0 rfl) ?_
          exact g_iretB C w hr dX8_forecast_79 h
        · have h := (if_pos hc).symm.trans h
          refine lv_aload_n C.1 C.2.1 dX8_forecast_58 rfl (lv_at hl 0 rfl) ?_
          refine lv_iload_n C.1 C.2.1 dX8_forecast_59 rfl (lv_at hl 1 rfl) ?_
          refine lv_iconst (v := 2) C.1 C.2.1 dX8_forecast_60 (by decide) ?_
          obtain ⟨o7, ho7, h⟩ := g_bd h
          refine g_callV (n := 2) (As := [.int a1, .int 2]) (rest := []) C w (m_X8_of sth kth ho7) (cl_8).1 sth kth (by decide) ml_X8_217 iy_X8_of sy_X8_of in_X8 cy_X8_of ⟨rfl, by decide +kernel, by decide +kernel, by decide +kernel⟩ rfl ⟨Nat.le_of_ble_eq_true rfl, Nat.le_of_ble_eq_true rfl⟩ rfl (Nat.le_of_ble_eq_true rfl) hl.1 ⟨Nat.le_of_ble_eq_true rfl, Nat.le_of_ble_eq_true rfl⟩ dX8_forecast_61 (fun H locs w => ?_)
          refine lv_goto (tgt := 73) C.1 C.2.1 dX8_forecast_64 (by decide) ?_
          refine lv_istore_n (lv' := [(3, .int o7), (0, .ref (B + th)), (1, .int a1), (2, .int a2)]) C.1 C.2.1 dX8_forecast_73 rfl hl (by decide) rfl (fun ls hl => ?_)
          refine lv_aload_n C.1 C.2.1 dX8_forecast_74 rfl (lv_at hl 1 rfl) ?_
          obtain ⟨o8, ho8, h⟩ := g_bd h
          refine g_callV (n := 0) (As := []) (rest := []) C w (m_X8_comesBack sth kth ho8) (cl_8).1 sth kth (by decide) ml_X8_288 iy_X8_comesBack sy_X8_comesBack in_X8 cy_X8_comesBack ⟨rfl, by decide +kernel, by decide +kernel, by decide +kernel⟩ rfl ⟨Nat.le_of_ble_eq_true rfl, Nat.le_of_ble_eq_true rfl⟩ rfl (Nat.le_of_ble_eq_true rfl) hl.1 ⟨Nat.le_of_ble_eq_true rfl, Nat.le_of_ble_eq_true rfl⟩ dX8_forecast_75 (fun H locs w => ?_)
          refine lv_iload_n C.1 C.2.1 dX8_forecast_78 rfl (lv_at hl 0 rfl) ?_
          exact g_iretB C w hr dX8_forecast_79 h
      · have h := (if_neg hc).symm.trans h
        refine lv_aload_n C.1 C.2.1 dX8_forecast_41 rfl (lv_at hl 0 rfl) ?_
        refine lv_iload_n C.1 C.2.1 dX8_forecast_42 rfl (lv_at hl 1 rfl) ?_
        refine lv_bipush (v := 6) C.1 C.2.1 dX8_forecast_43 (by decide) ?_
        refine lv_iload_n C.1 C.2.1 dX8_forecast_45 rfl (lv_at hl 2 rfl) ?_
        refine lv_iadd C.1 C.2.1 dX8_forecast_46 ?_
        obtain ⟨o9, ho9, h⟩ := g_bd h
        refine g_callV (n := 2) (As := [.int a1, .int (6 + a2)]) (rest := []) C w (m_X8_of sth kth ho9) (cl_8).1 sth kth (by decide) ml_X8_217 iy_X8_of sy_X8_of in_X8 cy_X8_of ⟨rfl, by decide +kernel, by decide +kernel, by decide +kernel⟩ rfl ⟨Nat.le_of_ble_eq_true rfl, Nat.le_of_ble_eq_true rfl⟩ rfl (Nat.le_of_ble_eq_true rfl) hl.1 ⟨Nat.le_of_ble_eq_true rfl, Nat.le_of_ble_eq_true rfl⟩ dX8_forecast_47 (fun H locs w => ?_)
        refine lv_goto (tgt := 73) C.1 C.2.1 dX8_forecast_50 (by decide) ?_
        refine lv_istore_n (lv' := [(3, .int o9), (0, .ref (B + th)), (1, .int a1), (2, .int a2)]) C.1 C.2.1 dX8_forecast_73 rfl hl (by decide) rfl (fun ls hl => ?_)
        refine lv_aload_n C.1 C.2.1 dX8_forecast_74 rfl (lv_at hl 1 rfl) ?_
        obtain ⟨o10, ho10, h⟩ := g_bd h
        refine g_callV (n := 0) (As := []) (rest := []) C w (m_X8_comesBack sth kth ho10) (cl_8).1 sth kth (by decide) ml_X8_288 iy_X8_comesBack sy_X8_comesBack in_X8 cy_X8_comesBack ⟨rfl, by decide +kernel, by decide +kernel, by decide +kernel⟩ rfl ⟨Nat.le_of_ble_eq_true rfl, Nat.le_of_ble_eq_true rfl⟩ rfl (Nat.le_of_ble_eq_true rfl) hl.1 ⟨Nat.le_of_ble_eq_true rfl, Nat.le_of_ble_eq_true rfl⟩ dX8_forecast_75 (fun H locs w => ?_)
        refine lv_iload_n C.1 C.2.1 dX8_forecast_78 rfl (lv_at hl 0 rfl) ?_
        exact g_iretB C w hr dX8_forecast_79 h
    · have h := (if_neg hc).symm.trans h
      refine lv_iconst (v := 0) C.1 C.2.1 dX8_forecast_30 (by decide) ?_
      exact g_iretB C w hr dX8_forecast_31 h
  have h := h0
  unfold F_X8_forecast at h
  refine lv_aload_n C.1 C.2.1 dX8_forecast_0 rfl (lv_at hl 0 rfl) ?_
  refine lv_iload_n C.1 C.2.1 dX8_forecast_1 rfl (lv_at hl 1 rfl) ?_
  obtain ⟨o1, ho1, h⟩ := g_bd h
  refine g_callV (n := 1) (As := [.int a1]) (rest := []) C w (m_X8_noPlayer sth kth ho1) (cl_8).1 sth kth (by decide) ml_X8_306 iy_X8_noPlayer sy_X8_noPlayer in_X8 cy_X8_noPlayer ⟨rfl, by decide +kernel, by decide +kernel, by decide +kernel⟩ rfl ⟨Nat.le_of_ble_eq_true rfl, Nat.le_of_ble_eq_true rfl⟩ rfl (Nat.le_of_ble_eq_true rfl) hl.1 ⟨Nat.le_of_ble_eq_true rfl, Nat.le_of_ble_eq_true rfl⟩ dX8_forecast_2 (fun H locs w => ?_)
  refine lv_if_ne (tgt := 30) C.1 C.2.1 dX8_forecast_5 (by decide) (fun hc => ?_) (fun hc => ?_)
  · have h := (if_neg hc).symm.trans h
    refine lv_iconst (v := 0) C.1 C.2.1 dX8_forecast_30 (by decide) ?_
    exact g_iretB C w hr dX8_forecast_31 h
  · have h := (if_pos hc).symm.trans h
    refine lv_aload_n C.1 C.2.1 dX8_forecast_8 rfl (lv_at hl 0 rfl) ?_
    refine lv_iload_n C.1 C.2.1 dX8_forecast_9 rfl (lv_at hl 2 rfl) ?_
    refine lv_iconst (v := 0) C.1 C.2.1 dX8_forecast_10 (by decide) ?_
    refine lv_iconst (v := 5) C.1 C.2.1 dX8_forecast_11 (by decide) ?_
    obtain ⟨o2, ho2, h⟩ := g_bd h
    refine g_callS (n := 3) (As := [.int a2, .int 0, .int 5]) (rest := [.ref (B + th)]) C w (m_X8_within ho2) ml_X8_95 iy_X8_within in_X8 cy_X8_within ⟨by decide +kernel, by decide +kernel, by decide +kernel⟩ rfl ⟨Nat.le_of_ble_eq_true rfl, Nat.le_of_ble_eq_true rfl⟩ rfl (Nat.le_of_ble_eq_true rfl) hl.1 ⟨Nat.le_of_ble_eq_true rfl, Nat.le_of_ble_eq_true rfl⟩ dX8_forecast_12 (fun H locs w => ?_)
    refine lv_if_ne (tgt := 22) C.1 C.2.1 dX8_forecast_15 (by decide) (fun hc => ?_) (fun hc => ?_)
    · have h := (if_neg hc).symm.trans h
      refine lv_iconst (v := 0) C.1 C.2.1 dX8_forecast_22 (by decide) ?_
      exact B_23 _ _ _ _ _ h w (show lv_has ls 4 [(0, .ref (B + th)), (1, .int a1), (2, .int a2)] from lv_sub hl [0, 1, 2] rfl)
    · have h := (if_pos hc).symm.trans h
      refine lv_iconst (v := 1) C.1 C.2.1 dX8_forecast_18 (by decide) ?_
      refine lv_goto (tgt := 23) C.1 C.2.1 dX8_forecast_19 (by decide) ?_
      exact B_23 _ _ _ _ _ h w (show lv_has ls 4 [(0, .ref (B + th)), (1, .int a1), (2, .int a2)] from lv_sub hl [0, 1, 2] rfl)

set_option maxHeartbeats 4000000 in
set_option maxRecDepth 100000 in
theorem m_X8_steadyQuality {l : Launch} {D : va_G} {cA : Nat → ClassId} {B : Nat} {S : Nat → Prop} {σ : GS} {th : Nat} {a1 : Int32} {o : GS × Int32} (sth : S th) (kth : kdG th = 8) (h0 : F_X8_steadyQuality σ th a1 = some o) : MF l yX8_steadyQuality cX8_steadyQuality 2 (some .int) 9 202 D cA B S [.ref (B + th), .int a1] σ o.1 (some (.int o.2)) := by
  refine MF.of (by decide +kernel) (Nat.le_of_ble_eq_true rfl) ?_
  intro p e s m args below meth c C hr w ls hl
  have hl : lv_has ls 2 [(0, .ref (B + th)), (1, .int a1)] := hl
  have h := h0
  unfold F_X8_steadyQuality at h
  refine lv_aload_n C.1 C.2.1 dX8_steadyQuality_0 rfl (lv_at hl 0 rfl) ?_
  refine lv_iload_n C.1 C.2.1 dX8_steadyQuality_1 rfl (lv_at hl 1 rfl) ?_
  obtain ⟨o1, ho1, h⟩ := g_bd h
  refine g_callV (n := 1) (As := [.int a1]) (rest := []) C w (m_X8_noPlayer sth kth ho1) (cl_8).1 sth kth (by decide) ml_X8_306 iy_X8_noPlayer sy_X8_noPlayer in_X8 cy_X8_noPlayer ⟨rfl, by decide +kernel, by decide +kernel, by decide +kernel⟩ rfl ⟨Nat.le_of_ble_eq_true rfl, Nat.le_of_ble_eq_true rfl⟩ rfl (Nat.le_of_ble_eq_true rfl) hl.1 ⟨Nat.le_of_ble_eq_true rfl, Nat.le_of_ble_eq_true rfl⟩ dX8_steadyQuality_2 (fun H locs w => ?_)
  refine lv_if_eq (tgt := 12) C.1 C.2.1 dX8_steadyQuality_5 (by decide) (fun hc => ?_) (fun hc => ?_)
  · have h := (if_pos hc).symm.trans h
    refine lv_aload_n C.1 C.2.1 dX8_steadyQuality_12 rfl (lv_at hl 0 rfl) ?_
    refine lv_iload_n C.1 C.2.1 dX8_steadyQuality_13 rfl (lv_at hl 1 rfl) ?_
    obtain ⟨o2, ho2, h⟩ := g_bd h
    refine g_callV (n := 1) (As := [.int a1]) (rest := []) C w (m_X8_steadyOf sth kth ho2) (cl_8).1 sth kth (by decide) ml_X8_309 iy_X8_steadyOf sy_X8_steadyOf in_X8 cy_X8_steadyOf ⟨rfl, by decide +kernel, by decide +kernel, by decide +kernel⟩ rfl ⟨Nat.le_of_ble_eq_true rfl, Nat.le_of_ble_eq_true rfl⟩ rfl (Nat.le_of_ble_eq_true rfl) hl.1 ⟨Nat.le_of_ble_eq_true rfl, Nat.le_of_ble_eq_true rfl⟩ dX8_steadyQuality_14 (fun H locs w => ?_)
    exact g_iretB C w hr dX8_steadyQuality_17 h
  · have h := (if_neg hc).symm.trans h
    refine lv_iconst (v := 0) C.1 C.2.1 dX8_steadyQuality_8 (by decide) ?_
    refine lv_goto (tgt := 17) C.1 C.2.1 dX8_steadyQuality_9 (by decide) ?_
    exact g_iretB C w hr dX8_steadyQuality_17 h

set_option maxHeartbeats 4000000 in
set_option maxRecDepth 100000 in
theorem m_X8_oracle {l : Launch} {D : va_G} {cA : Nat → ClassId} {B : Nat} {S : Nat → Prop} {σ : GS} {th : Nat} {a1 : Int32} {a2 : Int32} {o : GS × Int32} (sth : S th) (kth : kdG th = 8) (h0 : F_X8_oracle σ th a1 a2 = some o) : MF l yX8_oracle cX8_oracle 4 (some .int) 9 203 D cA B S [.ref (B + th), .int a1, .int a2] σ o.1 (some (.int o.2)) := by
  refine MF.of (by decide +kernel) (Nat.le_of_ble_eq_true rfl) ?_
  intro p e s m args below meth c C hr w ls hl
  have hl : lv_has ls 4 [(0, .ref (B + th)), (1, .int a1), (2, .int a2)] := hl
  have h := h0
  unfold F_X8_oracle at h
  refine lv_aload_n C.1 C.2.1 dX8_oracle_0 rfl (lv_at hl 0 rfl) ?_
  refine lv_iload_n C.1 C.2.1 dX8_oracle_1 rfl (lv_at hl 1 rfl) ?_
  obtain ⟨o1, ho1, h⟩ := g_bd h
  refine g_callV (n := 1) (As := [.int a1]) (rest := []) C w (m_X8_noPlayer sth kth ho1) (cl_8).1 sth kth (by decide) ml_X8_306 iy_X8_noPlayer sy_X8_noPlayer in_X8 cy_X8_noPlayer ⟨rfl, by decide +kernel, by decide +kernel, by decide +kernel⟩ rfl ⟨Nat.le_of_ble_eq_true rfl, Nat.le_of_ble_eq_true rfl⟩ rfl (Nat.le_of_ble_eq_true rfl) hl.1 ⟨Nat.le_of_ble_eq_true rfl, Nat.le_of_ble_eq_true rfl⟩ dX8_oracle_2 (fun H locs w => ?_)
  refine lv_if_eq (tgt := 10) C.1 C.2.1 dX8_oracle_5 (by decide) (fun hc => ?_) (fun hc => ?_)
  · have h := (if_pos hc).symm.trans h
    refine lv_aload_n C.1 C.2.1 dX8_oracle_10 rfl (lv_at hl 0 rfl) ?_
    refine lv_iload_n C.1 C.2.1 dX8_oracle_11 rfl (lv_at hl 1 rfl) ?_
    obtain ⟨o2, ho2, h⟩ := g_bd h
    refine g_callV (n := 1) (As := [.int a1]) (rest := []) C w (m_X8_hasNone sth kth ho2) (cl_8).1 sth kth (by decide) ml_X8_291 iy_X8_hasNone sy_X8_hasNone in_X8 cy_X8_hasNone ⟨rfl, by decide +kernel, by decide +kernel, by decide +kernel⟩ rfl ⟨Nat.le_of_ble_eq_true rfl, Nat.le_of_ble_eq_true rfl⟩ rfl (Nat.le_of_ble_eq_true rfl) hl.1 ⟨Nat.le_of_ble_eq_true rfl, Nat.le_of_ble_eq_true rfl⟩ dX8_oracle_12 (fun H locs w => ?_)
    refine lv_if_ne (tgt := 40) C.1 C.2.1 dX8_oracle_15 (by decide) (fun hc => ?_) (fun hc => ?_)
    · have h := (if_neg hc).symm.trans h
      refine lv_iconst (v := (-1)) C.1 C.2.1 dX8_oracle_40 (by decide) ?_
      exact g_iretB C w hr dX8_oracle_41 h
    · have h := (if_pos hc).symm.trans h
      refine lv_iload_n C.1 C.2.1 dX8_oracle_18 rfl (lv_at hl 2 rfl) ?_
      refine lv_iconst (v := 0) C.1 C.2.1 dX8_oracle_19 (by decide) ?_
      refine lv_aload_n C.1 C.2.1 dX8_oracle_20 rfl (lv_at hl 0 rfl) ?_
      refine lv_iload_n C.1 C.2.1 dX8_oracle_21 rfl (lv_at hl 1 rfl) ?_
      refine lv_iconst (v := 0) C.1 C.2.1 dX8_oracle_22 (by decide) ?_
      obtain ⟨o3, ho3, h⟩ := g_bd h
      refine g_callV (n := 2) (As := [.int a1, .int 0]) (rest := [.int 0, .int a2]) C w (m_X8_toldOf sth kth ho3) (cl_8).1 sth kth (by decide) ml_X8_213 iy_X8_toldOf sy_X8_toldOf in_X8 cy_X8_toldOf ⟨rfl, by decide +kernel, by decide +kernel, by decide +kernel⟩ rfl ⟨Nat.le_of_ble_eq_true rfl, Nat.le_of_ble_eq_true rfl⟩ rfl (Nat.le_of_ble_eq_true rfl) hl.1 ⟨Nat.le_of_ble_eq_true rfl, Nat.le_of_ble_eq_true rfl⟩ dX8_oracle_23 (fun H locs w => ?_)
      refine lv_iconst (v := 1) C.1 C.2.1 dX8_oracle_26 (by decide) ?_
      refine lv_isub C.1 C.2.1 dX8_oracle_27 ?_
      refine lv_aload_n C.1 C.2.1 dX8_oracle_28 rfl (lv_at hl 0 rfl) ?_
      refine lv_iload_n C.1 C.2.1 dX8_oracle_29 rfl (lv_at hl 1 rfl) ?_
      obtain ⟨o4, ho4, h⟩ := g_bd h
      refine g_callV (n := 1) (As := [.int a1]) (rest := [.int (o3 - 1), .int 0, .int a2]) C w (m_X8_askedMany sth kth ho4) (cl_8).1 sth kth (by decide) ml_X8_220 iy_X8_askedMany sy_X8_askedMany in_X8 cy_X8_askedMany ⟨rfl, by decide +kernel, by decide +kernel, by decide +kernel⟩ rfl ⟨Nat.le_of_ble_eq_true rfl, Nat.le_of_ble_eq_true rfl⟩ rfl (Nat.le_of_ble_eq_true rfl) hl.1 ⟨Nat.le_of_ble_eq_true rfl, Nat.le_of_ble_eq_true rfl⟩ dX8_oracle_30 (fun H locs w => ?_)
      refine lv_isub C.1 C.2.1 dX8_oracle_33 ?_
      obtain ⟨o5, ho5, h⟩ := g_bd h
      refine g_callS (n := 3) (As := [.int a2, .int 0, .int ((o3 - 1) - o4)]) (rest := []) C w (m_X8_within ho5) ml_X8_95 iy_X8_within in_X8 cy_X8_within ⟨by decide +kernel, by decide +kernel, by decide +kernel⟩ rfl ⟨Nat.le_of_ble_eq_true rfl, Nat.le_of_ble_eq_true rfl⟩ rfl (Nat.le_of_ble_eq_true rfl) hl.1 ⟨Nat.le_of_ble_eq_true rfl, Nat.le_of_ble_eq_true rfl⟩ dX8_oracle_34 (fun H locs w => ?_)
      refine lv_if_ne (tgt := 42) C.1 C.2.1 dX8_oracle_37 (by decide) (fun hc => ?_) (fun hc => ?_)
      · have h := (if_neg hc).symm.trans h
        refine lv_aload_n C.1 C.2.1 dX8_oracle_42 rfl (lv_at hl 0 rfl) ?_
        refine lv_iload_n C.1 C.2.1 dX8_oracle_43 rfl (lv_at hl 1 rfl) ?_
        obtain ⟨o6, ho6, h⟩ := g_bd h
        refine g_callV (n := 1) (As := [.int a1]) (rest := []) C w (m_X8_askedMany sth kth ho6) (cl_8).1 sth kth (by decide) ml_X8_220 iy_X8_askedMany sy_X8_askedMany in_X8 cy_X8_askedMany ⟨rfl, by decide +kernel, by decide +kernel, by decide +kernel⟩ rfl ⟨Nat.le_of_ble_eq_true rfl, Nat.le_of_ble_eq_true rfl⟩ rfl (Nat.le_of_ble_eq_true rfl) hl.1 ⟨Nat.le_of_ble_eq_true rfl, Nat.le_of_ble_eq_true rfl⟩ dX8_oracle_44 (fun H locs w => ?_)
        refine lv_iload_n C.1 C.2.1 dX8_oracle_47 rfl (lv_at hl 2 rfl) ?_
        refine lv_iadd C.1 C.2.1 dX8_oracle_48 ?_
        refine lv_istore_n (lv' := [(3, .int (o6 + a2)), (0, .ref (B + th)), (1, .int a1), (2, .int a2)]) C.1 C.2.1 dX8_oracle_49 rfl hl (by decide) rfl (fun ls hl => ?_)
        refine lv_aload_n C.1 C.2.1 dX8_oracle_50 rfl (lv_at hl 1 rfl) ?_
        refine lv_iload_n C.1 C.2.1 dX8_oracle_51 rfl (lv_at hl 2 rfl) ?_
        refine lv_iload_n C.1 C.2.1 dX8_oracle_52 rfl (lv_at hl 0 rfl) ?_
        obtain ⟨o7, ho7, h⟩ := g_bd h
        refine g_callV (n := 2) (As := [.int a1, .int (o6 + a2)]) (rest := []) C w (m_X8_laysOracle sth kth ho7) (cl_8).1 sth kth (by decide) ml_X8_312 iy_X8_laysOracle sy_X8_laysOracle in_X8 cy_X8_laysOracle ⟨rfl, by decide +kernel, by decide +kernel, by decide +kernel⟩ rfl ⟨Nat.le_of_ble_eq_true rfl, Nat.le_of_ble_eq_true rfl⟩ rfl (Nat.le_of_ble_eq_true rfl) hl.1 ⟨Nat.le_of_ble_eq_true rfl, Nat.le_of_ble_eq_true rfl⟩ dX8_oracle_53 (fun H locs w => ?_)
        refine lv_aload_n C.1 C.2.1 dX8_oracle_56 rfl (lv_at hl 1 rfl) ?_
        refine g_getR C w fl_X8_49 sth kth (by decide) kt_8_24 (fun _ _ _ => rfl) dX8_oracle_57 (fun s8 k8 => ?_)
        refine lv_iload_n C.1 C.2.1 dX8_oracle_60 rfl (lv_at hl 0 rfl) ?_
        obtain ⟨hb, h⟩ := g_ob h
        refine g_iald C w s8 k8 hb dX8_oracle_61 ?_
        exact g_iretB C w hr dX8_oracle_62 h
      · have h := (if_pos hc).symm.trans h
        refine lv_iconst (v := (-1)) C.1 C.2.1 dX8_oracle_40 (by decide) ?_
        exact g_iretB C w hr dX8_oracle_41 h
  · have h := (if_neg hc).symm.trans h
    refine lv_iconst (v := 0) C.1 C.2.1 dX8_oracle_8 (by decide) ?_
    exact g_iretB C w hr dX8_oracle_9 h

set_option maxHeartbeats 4000000 in
set_option maxRecDepth 100000 in
theorem m_X8_regret {l : Launch} {D : va_G} {cA : Nat → ClassId} {B : Nat} {S : Nat → Prop} {σ : GS} {th : Nat} {a1 : Int32} {o : GS × Int32} (sth : S th) (kth : kdG th = 8) (h0 : F_X8_regret σ th a1 = some o) : MF l yX8_regret cX8_regret 3 (some .int) 9 203 D cA B S [.ref (B + th), .int a1] σ o.1 (some (.int o.2)) := by
  refine MF.of (by decide +kernel) (Nat.le_of_ble_eq_true rfl) ?_
  intro p e s m args below meth c C hr w ls hl
  have hl : lv_has ls 3 [(0, .ref (B + th)), (1, .int a1)] := hl
  have h := h0
  unfold F_X8_regret at h
  refine lv_aload_n C.1 C.2.1 dX8_regret_0 rfl (lv_at hl 0 rfl) ?_
  refine lv_iload_n C.1 C.2.1 dX8_regret_1 rfl (lv_at hl 1 rfl) ?_
  obtain ⟨o1, ho1, h⟩ := g_bd h
  refine g_callV (n := 1) (As := [.int a1]) (rest := []) C w (m_X8_noPlayer sth kth ho1) (cl_8).1 sth kth (by decide) ml_X8_306 iy_X8_noPlayer sy_X8_noPlayer in_X8 cy_X8_noPlayer ⟨rfl, by decide +kernel, by decide +kernel, by decide +kernel⟩ rfl ⟨Nat.le_of_ble_eq_true rfl, Nat.le_of_ble_eq_true rfl⟩ rfl (Nat.le_of_ble_eq_true rfl) hl.1 ⟨Nat.le_of_ble_eq_true rfl, Nat.le_of_ble_eq_true rfl⟩ dX8_regret_2 (fun H locs w => ?_)
  refine lv_if_ne (tgt := 16) C.1 C.2.1 dX8_regret_5 (by decide) (fun hc => ?_) (fun hc => ?_)
  · have h := (if_neg hc).symm.trans h
    refine lv_iconst (v := 0) C.1 C.2.1 dX8_regret_16 (by decide) ?_
    exact g_iretB C w hr dX8_regret_17 h
  · have h := (if_pos hc).symm.trans h
    refine lv_aload_n C.1 C.2.1 dX8_regret_8 rfl (lv_at hl 0 rfl) ?_
    refine lv_iload_n C.1 C.2.1 dX8_regret_9 rfl (lv_at hl 1 rfl) ?_
    obtain ⟨o2, ho2, h⟩ := g_bd h
    refine g_callV (n := 1) (As := [.int a1]) (rest := []) C w (m_X8_hasNone sth kth ho2) (cl_8).1 sth kth (by decide) ml_X8_291 iy_X8_hasNone sy_X8_hasNone in_X8 cy_X8_hasNone ⟨rfl, by decide +kernel, by decide +kernel, by decide +kernel⟩ rfl ⟨Nat.le_of_ble_eq_true rfl, Nat.le_of_ble_eq_true rfl⟩ rfl (Nat.le_of_ble_eq_true rfl) hl.1 ⟨Nat.le_of_ble_eq_true rfl, Nat.le_of_ble_eq_true rfl⟩ dX8_regret_10 (fun H locs w => ?_)
    refine lv_if_eq (tgt := 18) C.1 C.2.1 dX8_regret_13 (by decide) (fun hc => ?_) (fun hc => ?_)
    · have h := (if_pos hc).symm.trans h
      refine lv_aload_n C.1 C.2.1 dX8_regret_18 rfl (lv_at hl 0 rfl) ?_
      refine lv_iload_n C.1 C.2.1 dX8_regret_19 rfl (lv_at hl 1 rfl) ?_
      refine lv_aload_n C.1 C.2.1 dX8_regret_20 rfl (lv_at hl 0 rfl) ?_
      refine lv_iload_n C.1 C.2.1 dX8_regret_21 rfl (lv_at hl 1 rfl) ?_
      refine lv_iconst (v := 0) C.1 C.2.1 dX8_regret_22 (by decide) ?_
      obtain ⟨o3, ho3, h⟩ := g_bd h
      refine g_callV (n := 2) (As := [.int a1, .int 0]) (rest := [.int a1, .ref (B + th)]) C w (m_X8_toldOf sth kth ho3) (cl_8).1 sth kth (by decide) ml_X8_213 iy_X8_toldOf sy_X8_toldOf in_X8 cy_X8_toldOf ⟨rfl, by decide +kernel, by decide +kernel, by decide +kernel⟩ rfl ⟨Nat.le_of_ble_eq_true rfl, Nat.le_of_ble_eq_true rfl⟩ rfl (Nat.le_of_ble_eq_true rfl) hl.1 ⟨Nat.le_of_ble_eq_true rfl, Nat.le_of_ble_eq_true rfl⟩ dX8_regret_23 (fun H locs w => ?_)
      refine lv_iconst (v := 1) C.1 C.2.1 dX8_regret_26 (by decide) ?_
      refine lv_isub C.1 C.2.1 dX8_regret_27 ?_
      obtain ⟨o4, ho4, h⟩ := g_bd h
      refine g_callV (n := 2) (As := [.int a1, .int (o3 - 1)]) (rest := []) C w (m_X8_laysOracle sth kth ho4) (cl_8).1 sth kth (by decide) ml_X8_312 iy_X8_laysOracle sy_X8_laysOracle in_X8 cy_X8_laysOracle ⟨rfl, by decide +kernel, by decide +kernel, by decide +kernel⟩ rfl ⟨Nat.le_of_ble_eq_true rfl, Nat.le_of_ble_eq_true rfl⟩ rfl (Nat.le_of_ble_eq_true rfl) hl.1 ⟨Nat.le_of_ble_eq_true rfl, Nat.le_of_ble_eq_true rfl⟩ dX8_regret_28 (fun H locs w => ?_)
      refine lv_aload_n C.1 C.2.1 dX8_regret_31 rfl (lv_at hl 0 rfl) ?_
      refine lv_iload_n C.1 C.2.1 dX8_regret_32 rfl (lv_at hl 1 rfl) ?_
      refine lv_iconst (v := 1) C.1 C.2.1 dX8_regret_33 (by decide) ?_
      obtain ⟨o5, ho5, h⟩ := g_bd h
      refine g_callV (n := 2) (As := [.int a1, .int 1]) (rest := []) C w (m_X8_qualitiesAhead sth kth ho5) (cl_8).1 sth kth (by decide) ml_X8_316 iy_X8_qualitiesAhead sy_X8_qualitiesAhead in_X8 cy_X8_qualitiesAhead ⟨rfl, by decide +kernel, by decide +kernel, by decide +kernel⟩ rfl ⟨Nat.le_of_ble_eq_true rfl, Nat.le_of_ble_eq_true rfl⟩ rfl (Nat.le_of_ble_eq_true rfl) hl.1 ⟨Nat.le_of_ble_eq_true rfl, Nat.le_of_ble_eq_true rfl⟩ dX8_regret_34 (fun H locs w => ?_)
      refine lv_istore_n (lv' := [(2, .int o5.2), (0, .ref (B + th)), (1, .int a1)]) C.1 C.2.1 dX8_regret_37 rfl hl (by decide) rfl (fun ls hl => ?_)
      refine lv_iload_n C.1 C.2.1 dX8_regret_38 rfl (lv_at hl 0 rfl) ?_
      refine lv_aload_n C.1 C.2.1 dX8_regret_39 rfl (lv_at hl 1 rfl) ?_
      refine lv_iload_n C.1 C.2.1 dX8_regret_40 rfl (lv_at hl 2 rfl) ?_
      refine lv_iconst (v := 0) C.1 C.2.1 dX8_regret_41 (by decide) ?_
      obtain ⟨o6, ho6, h⟩ := g_bd h
      refine g_callV (n := 2) (As := [.int a1, .int 0]) (rest := [.int o5.2]) C w (m_X8_qualitiesAhead sth kth ho6) (cl_8).1 sth kth (by decide) ml_X8_316 iy_X8_qualitiesAhead sy_X8_qualitiesAhead in_X8 cy_X8_qualitiesAhead ⟨rfl, by decide +kernel, by decide +kernel, by decide +kernel⟩ rfl ⟨Nat.le_of_ble_eq_true rfl, Nat.le_of_ble_eq_true rfl⟩ rfl (Nat.le_of_ble_eq_true rfl) hl.1 ⟨Nat.le_of_ble_eq_true rfl, Nat.le_of_ble_eq_true rfl⟩ dX8_regret_42 (fun H locs w => ?_)
      refine lv_isub C.1 C.2.1 dX8_regret_45 ?_
      exact g_iretB C w hr dX8_regret_46 h
    · have h := (if_neg hc).symm.trans h
      refine lv_iconst (v := 0) C.1 C.2.1 dX8_regret_16 (by decide) ?_
      exact g_iretB C w hr dX8_regret_17 h

set_option maxHeartbeats 4000000 in
set_option maxRecDepth 100000 in
theorem m_X8_areSteady {l : Launch} {D : va_G} {cA : Nat → ClassId} {B : Nat} {S : Nat → Prop} {σ : GS} {th : Nat} {o : GS × Int32} (sth : S th) (kth : kdG th = 8) (h0 : F_X8_areSteady σ th = some o) : MF l yX8_areSteady cX8_areSteady 4 (some .boolean) 7 156 D cA B S [.ref (B + th)] σ o.1 (some (.int o.2)) := by
  refine MF.of (by decide +kernel) (Nat.le_of_ble_eq_true rfl) ?_
  intro p e s m args below meth c C hr w ls hl
  have hl : lv_has ls 4 [(0, .ref (B + th))] := hl
  have B_8 : ∀ (n8 : Nat) (σ : GS) (v1 : Int32) (v2 : Int32) (H : Heap) (locs : List Loc) (ls : Array Slot), L_X8_areSteady_8 th n8 σ v1 v2 = some o → WS D cA B S σ s H locs → lv_has ls 4 [(0, .ref (B + th)), (1, .int v1), (2, .int v2)] → W p l e (rmF 7 156) s m args below meth c H locs 0 0 (MQ below (QF D cA B S o.1 (some (.int o.2))) args s 0 0 (AB B S)) (F0 m 8 ls []) := by
    intro n8
    induction n8 with
    | zero => intro σ v1 v2 H locs ls h; exact nomatch (show (none : Option (GS × Int32)) = some o from h)
    | succ n8 ih8 =>
      have B_58 : ∀ (σ : GS) (v1 : Int32) (v2 : Int32) (u0 : Int32) (H : Heap) (locs : List Loc) (ls : Array Slot), J_X8_areSteady_58 (L_X8_areSteady_8 th n8) th σ v1 v2 u0 = some o → WS D cA B S σ s H locs → lv_has ls 4 [(0, .ref (B + th)), (1, .int v1), (2, .int v2)] → W p l e (rmF 7 156) s m args below meth c H locs 0 0 (MQ below (QF D cA B S o.1 (some (.int o.2))) args s 0 0 (AB B S)) (F0 m 58 ls [.int u0]) := by
        intro σ v1 v2 u0 H locs ls h  w hl
        unfold J_X8_areSteady_58 at h
        refine lv_istore_n (lv' := [(3, .int u0), (0, .ref (B + th)), (1, .int v1), (2, .int v2)]) C.1 C.2.1 dX8_areSteady_58 rfl hl (by decide) rfl (fun ls hl => ?_)
        refine lv_iload_n C.1 C.2.1 dX8_areSteady_59 rfl (lv_at hl 2 rfl) ?_
        refine lv_if_eq (tgt := 81) C.1 C.2.1 dX8_areSteady_60 (by decide) (fun hc => ?_) (fun hc => ?_)
        · have h := (if_pos hc).symm.trans h
          refine lv_iconst (v := 0) C.1 C.2.1 dX8_areSteady_81 (by decide) ?_
          refine lv_istore_n (lv' := [(1, .int 0), (3, .int u0), (0, .ref (B + th)), (2, .int v2)]) C.1 C.2.1 dX8_areSteady_82 rfl hl (by decide) rfl (fun ls hl => ?_)
          refine lv_iinc (k := 3) (v := v2 + 1) (lv' := [(2, .int (v2 + 1)), (1, .int 0), (3, .int u0), (0, .ref (B + th))]) C.1 C.2.1 dX8_areSteady_83 hl rfl rfl (by decide) rfl (fun ls hl => ?_)
          refine lv_goto (tgt := 8) C.1 C.2.1 dX8_areSteady_86 (by decide) ?_
          exact ih8 _ _ _ _ _ _ h w (show lv_has ls 4 [(0, .ref (B + th)), (1, .int 0), (2, .int (v2 + 1))] from lv_sub hl [3, 1, 0] rfl)
        · have h := (if_neg hc).symm.trans h
          refine lv_iload_n C.1 C.2.1 dX8_areSteady_63 rfl (lv_at hl 0 rfl) ?_
          refine lv_if_ne (tgt := 77) C.1 C.2.1 dX8_areSteady_64 (by decide) (fun hc => ?_) (fun hc => ?_)
          · have h := (if_neg hc).symm.trans h
            refine lv_iconst (v := 1) C.1 C.2.1 dX8_areSteady_77 (by decide) ?_
            refine lv_goto (tgt := 82) C.1 C.2.1 dX8_areSteady_78 (by decide) ?_
            refine lv_istore_n (lv' := [(1, .int 1), (3, .int u0), (0, .ref (B + th)), (2, .int v2)]) C.1 C.2.1 dX8_areSteady_82 rfl hl (by decide) rfl (fun ls hl => ?_)
            refine lv_iinc (k := 3) (v := v2 + 1) (lv' := [(2, .int (v2 + 1)), (1, .int 1), (3, .int u0), (0, .ref (B + th))]) C.1 C.2.1 dX8_areSteady_83 hl rfl rfl (by decide) rfl (fun ls hl => ?_)
            refine lv_goto (tgt := 8) C.1 C.2.1 dX8_areSteady_86 (by decide) ?_
            exact ih8 _ _ _ _ _ _ h w (show lv_has ls 4 [(0, .ref (B + th)), (1, .int 1), (2, .int (v2 + 1))] from lv_sub hl [3, 1, 0] rfl)
          · have h := (if_pos hc).symm.trans h
            refine lv_aload_n C.1 C.2.1 dX8_areSteady_67 rfl (lv_at hl 1 rfl) ?_
            refine lv_iload_n C.1 C.2.1 dX8_areSteady_68 rfl (lv_at hl 3 rfl) ?_
            refine lv_iconst (v := 0) C.1 C.2.1 dX8_areSteady_69 (by decide) ?_
            obtain ⟨o7, ho7, h⟩ := g_bd h
            refine g_callV (n := 2) (As := [.int v2, .int 0]) (rest := []) C w (m_X8_of sth kth ho7) (cl_8).1 sth kth (by decide) ml_X8_217 iy_X8_of sy_X8_of in_X8 cy_X8_of ⟨rfl, by decide +kernel, by decide +kernel, by decide +kernel⟩ rfl ⟨Nat.le_of_ble_eq_true rfl, Nat.le_of_ble_eq_true rfl⟩ rfl (Nat.le_of_ble_eq_true rfl) hl.1 ⟨Nat.le_of_ble_eq_true rfl, Nat.le_of_ble_eq_true rfl⟩ dX8_areSteady_70 (fun H locs w => ?_)
            refine lv_iconst (v := 4) C.1 C.2.1 dX8_areSteady_73 (by decide) ?_
            refine lv_icmp_ne (tgt := 81) C.1 C.2.1 dX8_areSteady_74 (by decide) (fun hc => ?_) (fun hc => ?_)
            · have h := (if_neg hc).symm.trans h
              refine lv_iconst (v := 0) C.1 C.2.1 dX8_areSteady_81 (by decide) ?_
              refine lv_istore_n (lv' := [(1, .int 0), (3, .int u0), (0, .ref (B + th)), (2, .int v2)]) C.1 C.2.1 dX8_areSteady_82 rfl hl (by decide) rfl (fun ls hl => ?_)
              refine lv_iinc (k := 3) (v := v2 + 1) (lv' := [(2, .int (v2 + 1)), (1, .int 0), (3, .int u0), (0, .ref (B + th))]) C.1 C.2.1 dX8_areSteady_83 hl rfl rfl (by decide) rfl (fun ls hl => ?_)
              refine lv_goto (tgt := 8) C.1 C.2.1 dX8_areSteady_86 (by decide) ?_
              exact ih8 _ _ _ _ _ _ h w (show lv_has ls 4 [(0, .ref (B + th)), (1, .int 0), (2, .int (v2 + 1))] from lv_sub hl [3, 1, 0] rfl)
            · have h := (if_pos hc).symm.trans h
              refine lv_iconst (v := 1) C.1 C.2.1 dX8_areSteady_77 (by decide) ?_
              refine lv_goto (tgt := 82) C.1 C.2.1 dX8_areSteady_78 (by decide) ?_
              refine lv_istore_n (lv' := [(1, .int 1), (3, .int u0), (0, .ref (B + th)), (2, .int v2)]) C.1 C.2.1 dX8_areSteady_82 rfl hl (by decide) rfl (fun ls hl => ?_)
              refine lv_iinc (k := 3) (v := v2 + 1) (lv' := [(2, .int (v2 + 1)), (1, .int 1), (3, .int u0), (0, .ref (B + th))]) C.1 C.2.1 dX8_areSteady_83 hl rfl rfl (by decide) rfl (fun ls hl => ?_)
              refine lv_goto (tgt := 8) C.1 C.2.1 dX8_areSteady_86 (by decide) ?_
              exact ih8 _ _ _ _ _ _ h w (show lv_has ls 4 [(0, .ref (B + th)), (1, .int 1), (2, .int (v2 + 1))] from lv_sub hl [3, 1, 0] rfl)
      have B_57 : ∀ (σ : GS) (v1 : Int32) (v2 : Int32) (H : Heap) (locs : List Loc) (ls : Array Slot), J_X8_areSteady_57 (L_X8_areSteady_8 th n8) th σ v1 v2 = some o → WS D cA B S σ s H locs → lv_has ls 4 [(0, .ref (B + th)), (1, .int v1), (2, .int v2)] → W p l e (rmF 7 156) s m args below meth c H locs 0 0 (MQ below (QF D cA B S o.1 (some (.int o.2))) args s 0 0 (AB B S)) (F0 m 57 ls []) := by
        intro σ v1 v2 H locs ls h  w hl
        unfold J_X8_areSteady_57 at h
        refine lv_iconst (v := 0) C.1 C.2.1 dX8_areSteady_57 (by decide) ?_
        exact B_58 _ _ _ _ _ _ _ h w (show lv_has ls 4 [(0, .ref (B + th)), (1, .int v1), (2, .int v2)] from lv_sub hl [0, 1, 2] rfl)
      intro σ v1 v2 H locs ls h  w hl
      unfold L_X8_areSteady_8 at h
      refine lv_iload_n C.1 C.2.1 dX8_areSteady_8 rfl (lv_at hl 2 rfl) ?_
      refine lv_aload_n C.1 C.2.1 dX8_areSteady_9 rfl (lv_at hl 0 rfl) ?_
      refine g_getR C w fl_X8_7 sth kth (by decide) kt_8_1 (fun _ _ _ => rfl) dX8_areSteady_10 (fun s2 k2 => ?_)
      refine lv_iconst (v := 4) C.1 C.2.1 dX8_areSteady_13 (by decide) ?_
      obtain ⟨hb, h⟩ := g_ob h
      refine g_iald C w s2 k2 hb dX8_areSteady_14 ?_
      refine lv_icmp_ge (tgt := 89) C.1 C.2.1 dX8_areSteady_15 (by decide) (fun hc => ?_) (fun hc => ?_)
      · have h := (if_pos hc).symm.trans h
        refine lv_aload_n C.1 C.2.1 dX8_areSteady_89 rfl (lv_at hl 0 rfl) ?_
        obtain ⟨o3, ho3, h⟩ := g_bd h
        refine g_callV (n := 0) (As := []) (rest := []) C w (m_X8_comesBack sth kth ho3) (cl_8).1 sth kth (by decide) ml_X8_288 iy_X8_comesBack sy_X8_comesBack in_X8 cy_X8_comesBack ⟨rfl, by decide +kernel, by decide +kernel, by decide +kernel⟩ rfl ⟨Nat.le_of_ble_eq_true rfl, Nat.le_of_ble_eq_true rfl⟩ rfl (Nat.le_of_ble_eq_true rfl) hl.1 ⟨Nat.le_of_ble_eq_true rfl, Nat.le_of_ble_eq_true rfl⟩ dX8_areSteady_90 (fun H locs w => ?_)
        refine lv_iload_n C.1 C.2.1 dX8_areSteady_93 rfl (lv_at hl 1 rfl) ?_
        obtain ⟨hb, hf, h⟩ := g_obz h
        exact g_zretB C w hr hb dX8_areSteady_94 h
      · have h := (if_neg hc).symm.trans h
        refine lv_aload_n C.1 C.2.1 dX8_areSteady_18 rfl (lv_at hl 0 rfl) ?_
        refine lv_iload_n C.1 C.2.1 dX8_areSteady_19 rfl (lv_at hl 2 rfl) ?_
        refine lv_iconst (v := 0) C.1 C.2.1 dX8_areSteady_20 (by decide) ?_
        obtain ⟨o4, ho4, h⟩ := g_bd h
        refine g_callV (n := 2) (As := [.int v2, .int 0]) (rest := []) C w (m_X8_of sth kth ho4) (cl_8).1 sth kth (by decide) ml_X8_217 iy_X8_of sy_X8_of in_X8 cy_X8_of ⟨rfl, by decide +kernel, by decide +kernel, by decide +kernel⟩ rfl ⟨Nat.le_of_ble_eq_true rfl, Nat.le_of_ble_eq_true rfl⟩ rfl (Nat.le_of_ble_eq_true rfl) hl.1 ⟨Nat.le_of_ble_eq_true rfl, Nat.le_of_ble_eq_true rfl⟩ dX8_areSteady_21 (fun H locs w => ?_)
        refine lv_iconst (v := 3) C.1 C.2.1 dX8_areSteady_24 (by decide) ?_
        refine lv_icmp_ne (tgt := 57) C.1 C.2.1 dX8_areSteady_25 (by decide) (fun hc => ?_) (fun hc => ?_)
        · have h := (if_neg hc).symm.trans h
          exact B_57 _ _ _ _ _ _ h w (show lv_has ls 4 [(0, .ref (B + th)), (1, .int v1), (2, .int v2)] from lv_sub hl [0, 1, 2] rfl)
        · have h := (if_pos hc).symm.trans h
          refine lv_aload_n C.1 C.2.1 dX8_areSteady_28 rfl (lv_at hl 0 rfl) ?_
          refine lv_iload_n C.1 C.2.1 dX8_areSteady_29 rfl (lv_at hl 2 rfl) ?_
          refine lv_bipush (v := 6) C.1 C.2.1 dX8_areSteady_30 (by decide) ?_
          obtain ⟨o5, ho5, h⟩ := g_bd h
          refine g_callV (n := 2) (As := [.int v2, .int 6]) (rest := []) C w (m_X8_of sth kth ho5) (cl_8).1 sth kth (by decide) ml_X8_217 iy_X8_of sy_X8_of in_X8 cy_X8_of ⟨rfl, by decide +kernel, by decide +kernel, by decide +kernel⟩ rfl ⟨Nat.le_of_ble_eq_true rfl, Nat.le_of_ble_eq_true rfl⟩ rfl (Nat.le_of_ble_eq_true rfl) hl.1 ⟨Nat.le_of_ble_eq_true rfl, Nat.le_of_ble_eq_true rfl⟩ dX8_areSteady_32 (fun H locs w => ?_)
          refine lv_aload_n C.1 C.2.1 dX8_areSteady_35 rfl (lv_at hl 0 rfl) ?_
          refine g_getR C w fl_X8_52 sth kth (by decide) kt_8_25 (fun _ _ _ => rfl) dX8_areSteady_36 (fun s6 k6 => ?_)
          refine lv_bipush (v := 13) C.1 C.2.1 dX8_areSteady_39 (by decide) ?_
          refine lv_bipush (v := 106) C.1 C.2.1 dX8_areSteady_41 (by decide) ?_
          refine lv_iload_n C.1 C.2.1 dX8_areSteady_43 rfl (lv_at hl 2 rfl) ?_
          refine lv_imul C.1 C.2.1 dX8_areSteady_44 ?_
          refine lv_iadd C.1 C.2.1 dX8_areSteady_45 ?_
          refine lv_bipush (v := 6) C.1 C.2.1 dX8_areSteady_46 (by decide) ?_
          refine lv_iadd C.1 C.2.1 dX8_areSteady_48 ?_
          obtain ⟨hb, h⟩ := g_ob h
          refine g_iald C w s6 k6 hb dX8_areSteady_49 ?_
          refine lv_icmp_ne (tgt := 57) C.1 C.2.1 dX8_areSteady_50 (by decide) (fun hc => ?_) (fun hc => ?_)
          · have h := (if_neg hc).symm.trans h
            exact B_57 _ _ _ _ _ _ h w (show lv_has ls 4 [(0, .ref (B + th)), (1, .int v1), (2, .int v2)] from lv_sub hl [0, 1, 2] rfl)
          · have h := (if_pos hc).symm.trans h
            refine lv_iconst (v := 1) C.1 C.2.1 dX8_areSteady_53 (by decide) ?_
            refine lv_goto (tgt := 58) C.1 C.2.1 dX8_areSteady_54 (by decide) ?_
            exact B_58 _ _ _ _ _ _ _ h w (show lv_has ls 4 [(0, .ref (B + th)), (1, .int v1), (2, .int v2)] from lv_sub hl [0, 1, 2] rfl)
  have h := h0
  unfold F_X8_areSteady at h
  refine lv_aload_n C.1 C.2.1 dX8_areSteady_0 rfl (lv_at hl 0 rfl) ?_
  obtain ⟨o1, ho1, h⟩ := g_bd h
  refine g_callV (n := 0) (As := []) (rest := []) C w (m_X8_foresees sth kth ho1) (cl_8).1 sth kth (by decide) ml_X8_285 iy_X8_foresees sy_X8_foresees in_X8 cy_X8_foresees ⟨rfl, by decide +kernel, by decide +kernel, by decide +kernel⟩ rfl ⟨Nat.le_of_ble_eq_true rfl, Nat.le_of_ble_eq_true rfl⟩ rfl (Nat.le_of_ble_eq_true rfl) hl.1 ⟨Nat.le_of_ble_eq_true rfl, Nat.le_of_ble_eq_true rfl⟩ dX8_areSteady_1 (fun H locs w => ?_)
  refine lv_iconst (v := 1) C.1 C.2.1 dX8_areSteady_4 (by decide) ?_
  refine lv_istore_n (lv' := [(1, .int 1), (0, .ref (B + th))]) C.1 C.2.1 dX8_areSteady_5 rfl hl (by decide) rfl (fun ls hl => ?_)
  refine lv_iconst (v := 0) C.1 C.2.1 dX8_areSteady_6 (by decide) ?_
  refine lv_istore_n (lv' := [(2, .int 0), (1, .int 1), (0, .ref (B + th))]) C.1 C.2.1 dX8_areSteady_7 rfl hl (by decide) rfl (fun ls hl => ?_)
  exact B_8 _ _ _ _ _ _ _ h w (show lv_has ls 4 [(0, .ref (B + th)), (1, .int 1), (2, .int 0)] from lv_sub hl [2, 1, 0] rfl)

set_option maxHeartbeats 4000000 in
set_option maxRecDepth 100000 in
theorem m_X8_leastRate {l : Launch} {D : va_G} {cA : Nat → ClassId} {B : Nat} {S : Nat → Prop} {σ : GS} {th : Nat} {o : GS × Int32} (sth : S th) (kth : kdG th = 8) (h0 : F_X8_leastRate σ th = some o) : MF l yX8_leastRate cX8_leastRate 3 (some .int) 8 179 D cA B S [.ref (B + th)] σ o.1 (some (.int o.2)) := by
  refine MF.of (by decide +kernel) (Nat.le_of_ble_eq_true rfl) ?_
  intro p e s m args below meth c C hr w ls hl
  have hl : lv_has ls 3 [(0, .ref (B + th))] := hl
  have B_9 : ∀ (n9 : Nat) (σ : GS) (v1 : Int32) (v2 : Int32) (H : Heap) (locs : List Loc) (ls : Array Slot), L_X8_leastRate_9 th n9 σ v1 v2 = some o → WS D cA B S σ s H locs → lv_has ls 3 [(0, .ref (B + th)), (1, .int v1), (2, .int v2)] → W p l e (rmF 8 179) s m args below meth c H locs 0 0 (MQ below (QF D cA B S o.1 (some (.int o.2))) args s 0 0 (AB B S)) (F0 m 9 ls []) := by
    intro n9
    induction n9 with
    | zero => intro σ v1 v2 H locs ls h; exact nomatch (show (none : Option (GS × Int32)) = some o from h)
    | succ n9 ih9 =>
      intro σ v1 v2 H locs ls h  w hl
      unfold L_X8_leastRate_9 at h
      refine lv_iload_n C.1 C.2.1 dX8_leastRate_9 rfl (lv_at hl 2 rfl) ?_
      refine lv_sipush (v := 9900) C.1 C.2.1 dX8_leastRate_10 (by decide) ?_
      refine lv_icmp_gt (tgt := 45) C.1 C.2.1 dX8_leastRate_13 (by decide) (fun hc => ?_) (fun hc => ?_)
      · have h := (if_pos hc).symm.trans h
        refine lv_aload_n C.1 C.2.1 dX8_leastRate_45 rfl (lv_at hl 0 rfl) ?_
        refine lv_iconst (v := (-1)) C.1 C.2.1 dX8_leastRate_46 (by decide) ?_
        refine g_putI C w fw_X8_43 sth kth (by decide) (fun _ _ _ => rfl) rfl rfl dX8_leastRate_47 (fun H locs w => ?_)
        refine lv_iload_n C.1 C.2.1 dX8_leastRate_50 rfl (lv_at hl 1 rfl) ?_
        exact g_iretB C w hr dX8_leastRate_51 h
      · have h := (if_neg hc).symm.trans h
        refine lv_iload_n C.1 C.2.1 dX8_leastRate_16 rfl (lv_at hl 1 rfl) ?_
        refine lv_iconst (v := (-1)) C.1 C.2.1 dX8_leastRate_17 (by decide) ?_
        refine lv_icmp_ne (tgt := 45) C.1 C.2.1 dX8_leastRate_18 (by decide) (fun hc => ?_) (fun hc => ?_)
        · have h := (if_neg hc).symm.trans h
          refine lv_aload_n C.1 C.2.1 dX8_leastRate_45 rfl (lv_at hl 0 rfl) ?_
          refine lv_iconst (v := (-1)) C.1 C.2.1 dX8_leastRate_46 (by decide) ?_
          refine g_putI C w fw_X8_43 sth kth (by decide) (fun _ _ _ => rfl) rfl rfl dX8_leastRate_47 (fun H locs w => ?_)
          refine lv_iload_n C.1 C.2.1 dX8_leastRate_50 rfl (lv_at hl 1 rfl) ?_
          exact g_iretB C w hr dX8_leastRate_51 h
        · have h := (if_pos hc).symm.trans h
          refine lv_aload_n C.1 C.2.1 dX8_leastRate_21 rfl (lv_at hl 0 rfl) ?_
          refine lv_iload_n C.1 C.2.1 dX8_leastRate_22 rfl (lv_at hl 2 rfl) ?_
          refine g_putI C w fw_X8_43 sth kth (by decide) (fun _ _ _ => rfl) rfl rfl dX8_leastRate_23 (fun H locs w => ?_)
          refine lv_aload_n C.1 C.2.1 dX8_leastRate_26 rfl (lv_at hl 0 rfl) ?_
          obtain ⟨o5, ho5, h⟩ := g_bd h
          refine g_callV (n := 0) (As := []) (rest := []) C w (m_X8_areSteady sth kth ho5) (cl_8).1 sth kth (by decide) ml_X8_320 iy_X8_areSteady sy_X8_areSteady in_X8 cy_X8_areSteady ⟨rfl, by decide +kernel, by decide +kernel, by decide +kernel⟩ rfl ⟨Nat.le_of_ble_eq_true rfl, Nat.le_of_ble_eq_true rfl⟩ rfl (Nat.le_of_ble_eq_true rfl) hl.1 ⟨Nat.le_of_ble_eq_true rfl, Nat.le_of_ble_eq_true rfl⟩ dX8_leastRate_27 (fun H locs w => ?_)
          refine lv_if_eq (tgt := 37) C.1 C.2.1 dX8_leastRate_30 (by decide) (fun hc => ?_) (fun hc => ?_)
          · have h := (if_pos hc).symm.trans h
            refine lv_iconst (v := (-1)) C.1 C.2.1 dX8_leastRate_37 (by decide) ?_
            refine lv_istore_n (lv' := [(1, .int (-1)), (0, .ref (B + th)), (2, .int v2)]) C.1 C.2.1 dX8_leastRate_38 rfl hl (by decide) rfl (fun ls hl => ?_)
            refine lv_iinc (k := 2) (v := v2 + 100) (lv' := [(2, .int (v2 + 100)), (1, .int (-1)), (0, .ref (B + th))]) C.1 C.2.1 dX8_leastRate_39 hl rfl rfl (by decide) rfl (fun ls hl => ?_)
            refine lv_goto (tgt := 9) C.1 C.2.1 dX8_leastRate_42 (by decide) ?_
            exact ih9 _ _ _ _ _ _ h w (show lv_has ls 3 [(0, .ref (B + th)), (1, .int (-1)), (2, .int (v2 + 100))] from lv_sub hl [2, 1, 0] rfl)
          · have h := (if_neg hc).symm.trans h
            refine lv_iload_n C.1 C.2.1 dX8_leastRate_33 rfl (lv_at hl 2 rfl) ?_
            refine lv_goto (tgt := 38) C.1 C.2.1 dX8_leastRate_34 (by decide) ?_
            refine lv_istore_n (lv' := [(1, .int v2), (0, .ref (B + th)), (2, .int v2)]) C.1 C.2.1 dX8_leastRate_38 rfl hl (by decide) rfl (fun ls hl => ?_)
            refine lv_iinc (k := 2) (v := v2 + 100) (lv' := [(2, .int (v2 + 100)), (1, .int v2), (0, .ref (B + th))]) C.1 C.2.1 dX8_leastRate_39 hl rfl rfl (by decide) rfl (fun ls hl => ?_)
            refine lv_goto (tgt := 9) C.1 C.2.1 dX8_leastRate_42 (by decide) ?_
            exact ih9 _ _ _ _ _ _ h w (show lv_has ls 3 [(0, .ref (B + th)), (1, .int v2), (2, .int (v2 + 100))] from lv_sub hl [2, 1, 0] rfl)
  have h := h0
  unfold F_X8_leastRate at h
  refine lv_aload_n C.1 C.2.1 dX8_leastRate_0 rfl (lv_at hl 0 rfl) ?_
  refine lv_iconst (v := 0) C.1 C.2.1 dX8_leastRate_1 (by decide) ?_
  refine g_putI C w fw_X8_71 sth kth (by decide) (fun _ _ _ => rfl) rfl rfl dX8_leastRate_2 (fun H locs w => ?_)
  refine lv_iconst (v := (-1)) C.1 C.2.1 dX8_leastRate_5 (by decide) ?_
  refine lv_istore_n (lv' := [(1, .int (-1)), (0, .ref (B + th))]) C.1 C.2.1 dX8_leastRate_6 rfl hl (by decide) rfl (fun ls hl => ?_)
  refine lv_iconst (v := 0) C.1 C.2.1 dX8_leastRate_7 (by decide) ?_
  refine lv_istore_n (lv' := [(2, .int 0), (1, .int (-1)), (0, .ref (B + th))]) C.1 C.2.1 dX8_leastRate_8 rfl hl (by decide) rfl (fun ls hl => ?_)
  exact B_9 _ _ _ _ _ _ _ h w (show lv_has ls 3 [(0, .ref (B + th)), (1, .int (-1)), (2, .int 0)] from lv_sub hl [2, 1, 0] rfl)

set_option maxHeartbeats 4000000 in
set_option maxRecDepth 100000 in
theorem m_X8_run {l : Launch} {D : va_G} {cA : Nat → ClassId} {B : Nat} {S : Nat → Prop} {σ : GS} {th : Nat} {a1 : Int32} {o : GS × Int32} (sth : S th) (kth : kdG th = 8) (h0 : F_X8_run σ th a1 = some o) : MF l yX8_run cX8_run 3 (some .int) 6 136 D cA B S [.ref (B + th), .int a1] σ o.1 (some (.int o.2)) := by
  refine MF.of (by decide +kernel) (Nat.le_of_ble_eq_true rfl) ?_
  intro p e s m args below meth c C hr w ls hl
  have hl : lv_has ls 3 [(0, .ref (B + th)), (1, .int a1)] := hl
  have B_64 : ∀ (n64 : Nat) (σ : GS) (v2 : Int32) (H : Heap) (locs : List Loc) (ls : Array Slot), L_X8_run_64 th a1 n64 σ v2 = some o → WS D cA B S σ s H locs → lv_has ls 3 [(0, .ref (B + th)), (1, .int a1), (2, .int v2)] → W p l e (rmF 6 136) s m args below meth c H locs 0 0 (MQ below (QF D cA B S o.1 (some (.int o.2))) args s 0 0 (AB B S)) (F0 m 64 ls []) := by
    intro n64
    induction n64 with
    | zero => intro σ v2 H locs ls h; exact nomatch (show (none : Option (GS × Int32)) = some o from h)
    | succ n64 ih64 =>
      intro σ v2 H locs ls h  w hl
      unfold L_X8_run_64 at h
      refine lv_iload_n C.1 C.2.1 dX8_run_64 rfl (lv_at hl 2 rfl) ?_
      refine lv_iload_n C.1 C.2.1 dX8_run_65 rfl (lv_at hl 1 rfl) ?_
      refine lv_icmp_ge (tgt := 79) C.1 C.2.1 dX8_run_66 (by decide) (fun hc => ?_) (fun hc => ?_)
      · have h := (if_pos hc).symm.trans h
        refine lv_aload_n C.1 C.2.1 dX8_run_79 rfl (lv_at hl 0 rfl) ?_
        refine g_getR C w fl_X8_17 sth kth (by decide) kt_8_3 (fun _ _ _ => rfl) dX8_run_80 (fun s7 k7 => ?_)
        refine lv_iconst (v := 0) C.1 C.2.1 dX8_run_83 (by decide) ?_
        obtain ⟨hb, h⟩ := g_ob h
        refine g_iald C w s7 k7 hb dX8_run_84 ?_
        exact g_iretB C w hr dX8_run_85 h
      · have h := (if_neg hc).symm.trans h
        refine lv_aload_n C.1 C.2.1 dX8_run_69 rfl (lv_at hl 0 rfl) ?_
        obtain ⟨o8, ho8, h⟩ := g_bd h
        refine g_callV (n := 0) (As := []) (rest := []) C w (m_X8_passes sth kth ho8) (cl_8).1 sth kth (by decide) ml_X8_282 iy_X8_passes sy_X8_passes in_X8 cy_X8_passes ⟨rfl, by decide +kernel, by decide +kernel, by decide +kernel⟩ rfl ⟨Nat.le_of_ble_eq_true rfl, Nat.le_of_ble_eq_true rfl⟩ rfl (Nat.le_of_ble_eq_true rfl) hl.1 ⟨Nat.le_of_ble_eq_true rfl, Nat.le_of_ble_eq_true rfl⟩ dX8_run_70 (fun H locs w => ?_)
        refine lv_iinc (k := 2) (v := v2 + 1) (lv' := [(2, .int (v2 + 1)), (0, .ref (B + th)), (1, .int a1)]) C.1 C.2.1 dX8_run_73 hl rfl rfl (by decide) rfl (fun ls hl => ?_)
        refine lv_goto (tgt := 64) C.1 C.2.1 dX8_run_76 (by decide) ?_
        exact ih64 _ _ _ _ _ h w (show lv_has ls 3 [(0, .ref (B + th)), (1, .int a1), (2, .int (v2 + 1))] from lv_sub hl [1, 2, 0] rfl)
  have B_49 : ∀ (σ : GS) (u0 : Int32) (H : Heap) (locs : List Loc) (ls : Array Slot), J_X8_run_49 th a1 σ u0 = some o → WS D cA B S σ s H locs → lv_has ls 3 [(0, .ref (B + th)), (1, .int a1)] → W p l e (rmF 6 136) s m args below meth c H locs 0 0 (MQ below (QF D cA B S o.1 (some (.int o.2))) args s 0 0 (AB B S)) (F0 m 49 ls [.int u0, .ref (B + th)]) := by
    intro σ u0 H locs ls h  w hl
    unfold J_X8_run_49 at h
    refine lv_iconst (v := 2) C.1 C.2.1 dX8_run_49 (by decide) ?_
    obtain ⟨o5, ho5, h⟩ := g_bd h
    refine g_callV (n := 2) (As := [.int u0, .int 2]) (rest := []) C w (m_X8_throwsIf sth kth ho5) (cl_8).1 sth kth (by decide) ml_X8_194 iy_X8_throwsIf sy_X8_throwsIf in_X8 cy_X8_throwsIf ⟨rfl, by decide +kernel, by decide +kernel, by decide +kernel⟩ rfl ⟨Nat.le_of_ble_eq_true rfl, Nat.le_of_ble_eq_true rfl⟩ rfl (Nat.le_of_ble_eq_true rfl) hl.1 ⟨Nat.le_of_ble_eq_true rfl, Nat.le_of_ble_eq_true rfl⟩ dX8_run_50 (fun H locs w => ?_)
    refine lv_if_eq (tgt := 58) C.1 C.2.1 dX8_run_53 (by decide) (fun hc => ?_) (fun hc => ?_)
    · have h := (if_pos hc).symm.trans h
      refine lv_aload_n C.1 C.2.1 dX8_run_58 rfl (lv_at hl 0 rfl) ?_
      obtain ⟨o6, ho6, h⟩ := g_bd h
      refine g_callV (n := 0) (As := []) (rest := []) C w (m_X8_keeps sth kth ho6) (cl_8).1 sth kth (by decide) ml_X8_326 iy_X8_keeps sy_X8_keeps in_X8 cy_X8_keeps ⟨rfl, by decide +kernel, by decide +kernel, by decide +kernel⟩ rfl ⟨Nat.le_of_ble_eq_true rfl, Nat.le_of_ble_eq_true rfl⟩ rfl (Nat.le_of_ble_eq_true rfl) hl.1 ⟨Nat.le_of_ble_eq_true rfl, Nat.le_of_ble_eq_true rfl⟩ dX8_run_59 (fun H locs w => ?_)
      refine lv_iconst (v := 0) C.1 C.2.1 dX8_run_62 (by decide) ?_
      refine lv_istore_n (lv' := [(2, .int 0), (0, .ref (B + th)), (1, .int a1)]) C.1 C.2.1 dX8_run_63 rfl hl (by decide) rfl (fun ls hl => ?_)
      exact B_64 _ _ _ _ _ _ h w (show lv_has ls 3 [(0, .ref (B + th)), (1, .int a1), (2, .int 0)] from lv_sub hl [1, 2, 0] rfl)
    · have h := (if_neg hc).symm.trans h
      refine lv_iconst (v := 0) C.1 C.2.1 dX8_run_56 (by decide) ?_
      exact g_iretB C w hr dX8_run_57 h
  have B_22 : ∀ (σ : GS) (u0 : Int32) (H : Heap) (locs : List Loc) (ls : Array Slot), J_X8_run_22 th a1 σ u0 = some o → WS D cA B S σ s H locs → lv_has ls 3 [(0, .ref (B + th)), (1, .int a1)] → W p l e (rmF 6 136) s m args below meth c H locs 0 0 (MQ below (QF D cA B S o.1 (some (.int o.2))) args s 0 0 (AB B S)) (F0 m 22 ls [.int u0, .ref (B + th)]) := by
    intro σ u0 H locs ls h  w hl
    unfold J_X8_run_22 at h
    refine lv_iconst (v := 1) C.1 C.2.1 dX8_run_22 (by decide) ?_
    obtain ⟨o3, ho3, h⟩ := g_bd h
    refine g_callV (n := 2) (As := [.int u0, .int 1]) (rest := []) C w (m_X8_throwsIf sth kth ho3) (cl_8).1 sth kth (by decide) ml_X8_194 iy_X8_throwsIf sy_X8_throwsIf in_X8 cy_X8_throwsIf ⟨rfl, by decide +kernel, by decide +kernel, by decide +kernel⟩ rfl ⟨Nat.le_of_ble_eq_true rfl, Nat.le_of_ble_eq_true rfl⟩ rfl (Nat.le_of_ble_eq_true rfl) hl.1 ⟨Nat.le_of_ble_eq_true rfl, Nat.le_of_ble_eq_true rfl⟩ dX8_run_23 (fun H locs w => ?_)
    refine lv_if_ne (tgt := 56) C.1 C.2.1 dX8_run_26 (by decide) (fun hc => ?_) (fun hc => ?_)
    · have h := (if_neg hc).symm.trans h
      refine lv_iconst (v := 0) C.1 C.2.1 dX8_run_56 (by decide) ?_
      exact g_iretB C w hr dX8_run_57 h
    · have h := (if_pos hc).symm.trans h
      refine lv_aload_n C.1 C.2.1 dX8_run_29 rfl (lv_at hl 0 rfl) ?_
      refine lv_aload_n C.1 C.2.1 dX8_run_30 rfl (lv_at hl 0 rfl) ?_
      refine g_getR C w fl_X8_17 sth kth (by decide) kt_8_3 (fun _ _ _ => rfl) dX8_run_31 (fun s4 k4 => ?_)
      refine lv_iconst (v := 0) C.1 C.2.1 dX8_run_34 (by decide) ?_
      obtain ⟨hb, h⟩ := g_ob h
      refine g_iald C w s4 k4 hb dX8_run_35 ?_
      refine lv_iload_n C.1 C.2.1 dX8_run_36 rfl (lv_at hl 1 rfl) ?_
      refine lv_iadd C.1 C.2.1 dX8_run_37 ?_
      refine lv_sipush (v := 2000) C.1 C.2.1 dX8_run_38 (by decide) ?_
      refine lv_icmp_le (tgt := 48) C.1 C.2.1 dX8_run_41 (by decide) (fun hc => ?_) (fun hc => ?_)
      · have h := (if_pos hc).symm.trans h
        refine lv_iconst (v := 0) C.1 C.2.1 dX8_run_48 (by decide) ?_
        exact B_49 _ _ _ _ _ h w (show lv_has ls 3 [(0, .ref (B + th)), (1, .int a1)] from lv_sub hl [0, 1] rfl)
      · have h := (if_neg hc).symm.trans h
        refine lv_iconst (v := 1) C.1 C.2.1 dX8_run_44 (by decide) ?_
        refine lv_goto (tgt := 49) C.1 C.2.1 dX8_run_45 (by decide) ?_
        exact B_49 _ _ _ _ _ h w (show lv_has ls 3 [(0, .ref (B + th)), (1, .int a1)] from lv_sub hl [0, 1] rfl)
  have h := h0
  unfold F_X8_run at h
  refine lv_aload_n C.1 C.2.1 dX8_run_0 rfl (lv_at hl 0 rfl) ?_
  refine lv_iconst (v := 0) C.1 C.2.1 dX8_run_1 (by decide) ?_
  refine g_putI C w fw_X8_71 sth kth (by decide) (fun _ _ _ => rfl) rfl rfl dX8_run_2 (fun H locs w => ?_)
  refine lv_aload_n C.1 C.2.1 dX8_run_5 rfl (lv_at hl 0 rfl) ?_
  refine lv_iload_n C.1 C.2.1 dX8_run_6 rfl (lv_at hl 1 rfl) ?_
  refine lv_iconst (v := 1) C.1 C.2.1 dX8_run_7 (by decide) ?_
  refine lv_sipush (v := 200) C.1 C.2.1 dX8_run_8 (by decide) ?_
  obtain ⟨o2, ho2, h⟩ := g_bd h
  refine g_callS (n := 3) (As := [.int a1, .int 1, .int 200]) (rest := [.ref (B + th)]) C w (m_X8_within ho2) ml_X8_95 iy_X8_within in_X8 cy_X8_within ⟨by decide +kernel, by decide +kernel, by decide +kernel⟩ rfl ⟨Nat.le_of_ble_eq_true rfl, Nat.le_of_ble_eq_true rfl⟩ rfl (Nat.le_of_ble_eq_true rfl) hl.1 ⟨Nat.le_of_ble_eq_true rfl, Nat.le_of_ble_eq_true rfl⟩ dX8_run_11 (fun H locs w => ?_)
  refine lv_if_ne (tgt := 21) C.1 C.2.1 dX8_run_14 (by decide) (fun hc => ?_) (fun hc => ?_)
  · have h := (if_neg hc).symm.trans h
    refine lv_iconst (v := 0) C.1 C.2.1 dX8_run_21 (by decide) ?_
    exact B_22 _ _ _ _ _ h w (show lv_has ls 3 [(0, .ref (B + th)), (1, .int a1)] from lv_sub hl [0, 1] rfl)
  · have h := (if_pos hc).symm.trans h
    refine lv_iconst (v := 1) C.1 C.2.1 dX8_run_17 (by decide) ?_
    refine lv_goto (tgt := 22) C.1 C.2.1 dX8_run_18 (by decide) ?_
    exact B_22 _ _ _ _ _ h w (show lv_has ls 3 [(0, .ref (B + th)), (1, .int a1)] from lv_sub hl [0, 1] rfl)

set_option maxHeartbeats 4000000 in
set_option maxRecDepth 100000 in
theorem m_X8_setRule {l : Launch} {D : va_G} {cA : Nat → ClassId} {B : Nat} {S : Nat → Prop} {σ : GS} {th : Nat} {a1 : Int32} {a2 : Int32} {o : GS × Int32} (sth : S th) (kth : kdG th = 8) (h0 : F_X8_setRule σ th a1 a2 = some o) : MF l yX8_setRule cX8_setRule 4 (some .int) 3 65 D cA B S [.ref (B + th), .int a1, .int a2] σ o.1 (some (.int o.2)) := by
  refine MF.of (by decide +kernel) (Nat.le_of_ble_eq_true rfl) ?_
  intro p e s m args below meth c C hr w ls hl
  have hl : lv_has ls 4 [(0, .ref (B + th)), (1, .int a1), (2, .int a2)] := hl
  have B_23 : ∀ (σ : GS) (u0 : Int32) (H : Heap) (locs : List Loc) (ls : Array Slot), J_X8_setRule_23 th a1 a2 σ u0 = some o → WS D cA B S σ s H locs → lv_has ls 4 [(0, .ref (B + th)), (1, .int a1), (2, .int a2)] → W p l e (rmF 3 65) s m args below meth c H locs 0 0 (MQ below (QF D cA B S o.1 (some (.int o.2))) args s 0 0 (AB B S)) (F0 m 23 ls [.int u0, .ref (B + th)]) := by
    intro σ u0 H locs ls h  w hl
    unfold J_X8_setRule_23 at h
    refine lv_iconst (v := 2) C.1 C.2.1 dX8_setRule_23 (by decide) ?_
    obtain ⟨o3, ho3, h⟩ := g_bd h
    refine g_callV (n := 2) (As := [.int u0, .int 2]) (rest := []) C w (m_X8_throwsIf sth kth ho3) (cl_8).1 sth kth (by decide) ml_X8_194 iy_X8_throwsIf sy_X8_throwsIf in_X8 cy_X8_throwsIf ⟨rfl, by decide +kernel, by decide +kernel, by decide +kernel⟩ rfl ⟨Nat.le_of_ble_eq_true rfl, Nat.le_of_ble_eq_true rfl⟩ rfl (Nat.le_of_ble_eq_true rfl) hl.1 ⟨Nat.le_of_ble_eq_true rfl, Nat.le_of_ble_eq_true rfl⟩ dX8_setRule_24 (fun H locs w => ?_)
    refine lv_if_eq (tgt := 32) C.1 C.2.1 dX8_setRule_27 (by decide) (fun hc => ?_) (fun hc => ?_)
    · have h := (if_pos hc).symm.trans h
      refine lv_aload_n C.1 C.2.1 dX8_setRule_32 rfl (lv_at hl 0 rfl) ?_
      obtain ⟨o4, ho4, h⟩ := g_bd h
      refine g_callV (n := 0) (As := []) (rest := []) C w (m_X8_keeps sth kth ho4) (cl_8).1 sth kth (by decide) ml_X8_326 iy_X8_keeps sy_X8_keeps in_X8 cy_X8_keeps ⟨rfl, by decide +kernel, by decide +kernel, by decide +kernel⟩ rfl ⟨Nat.le_of_ble_eq_true rfl, Nat.le_of_ble_eq_true rfl⟩ rfl (Nat.le_of_ble_eq_true rfl) hl.1 ⟨Nat.le_of_ble_eq_true rfl, Nat.le_of_ble_eq_true rfl⟩ dX8_setRule_33 (fun H locs w => ?_)
      refine lv_aload_n C.1 C.2.1 dX8_setRule_36 rfl (lv_at hl 0 rfl) ?_
      refine lv_iload_n C.1 C.2.1 dX8_setRule_37 rfl (lv_at hl 1 rfl) ?_
      refine lv_bipush (v := 12) C.1 C.2.1 dX8_setRule_38 (by decide) ?_
      obtain ⟨o5, ho5, h⟩ := g_bd h
      refine g_callV (n := 2) (As := [.int a1, .int 12]) (rest := []) C w (m_X8_of sth kth ho5) (cl_8).1 sth kth (by decide) ml_X8_217 iy_X8_of sy_X8_of in_X8 cy_X8_of ⟨rfl, by decide +kernel, by decide +kernel, by decide +kernel⟩ rfl ⟨Nat.le_of_ble_eq_true rfl, Nat.le_of_ble_eq_true rfl⟩ rfl (Nat.le_of_ble_eq_true rfl) hl.1 ⟨Nat.le_of_ble_eq_true rfl, Nat.le_of_ble_eq_true rfl⟩ dX8_setRule_40 (fun H locs w => ?_)
      refine lv_istore_n (lv' := [(3, .int o5), (0, .ref (B + th)), (1, .int a1), (2, .int a2)]) C.1 C.2.1 dX8_setRule_43 rfl hl (by decide) rfl (fun ls hl => ?_)
      refine lv_aload_n C.1 C.2.1 dX8_setRule_44 rfl (lv_at hl 1 rfl) ?_
      refine lv_iload_n C.1 C.2.1 dX8_setRule_45 rfl (lv_at hl 2 rfl) ?_
      refine lv_bipush (v := 12) C.1 C.2.1 dX8_setRule_46 (by decide) ?_
      refine lv_iload_n C.1 C.2.1 dX8_setRule_48 rfl (lv_at hl 3 rfl) ?_
      obtain ⟨o6, ho6, h⟩ := g_bd h
      refine g_callV (n := 3) (As := [.int a1, .int 12, .int a2]) (rest := []) C w (m_X8_sets sth kth ho6) (cl_8).1 sth kth (by decide) ml_X8_206 iy_X8_sets sy_X8_sets in_X8 cy_X8_sets ⟨rfl, by decide +kernel, by decide +kernel, by decide +kernel⟩ rfl ⟨Nat.le_of_ble_eq_true rfl, Nat.le_of_ble_eq_true rfl⟩ rfl (Nat.le_of_ble_eq_true rfl) hl.1 ⟨Nat.le_of_ble_eq_true rfl, Nat.le_of_ble_eq_true rfl⟩ dX8_setRule_49 (fun H locs w => ?_)
      refine lv_iload_n C.1 C.2.1 dX8_setRule_52 rfl (lv_at hl 0 rfl) ?_
      exact g_iretB C w hr dX8_setRule_53 h
    · have h := (if_neg hc).symm.trans h
      refine lv_iconst (v := 0) C.1 C.2.1 dX8_setRule_30 (by decide) ?_
      exact g_iretB C w hr dX8_setRule_31 h
  have h := h0
  unfold F_X8_setRule at h
  refine lv_aload_n C.1 C.2.1 dX8_setRule_0 rfl (lv_at hl 0 rfl) ?_
  refine lv_iload_n C.1 C.2.1 dX8_setRule_1 rfl (lv_at hl 1 rfl) ?_
  obtain ⟨o1, ho1, h⟩ := g_bd h
  refine g_callV (n := 1) (As := [.int a1]) (rest := []) C w (m_X8_noPlayer sth kth ho1) (cl_8).1 sth kth (by decide) ml_X8_306 iy_X8_noPlayer sy_X8_noPlayer in_X8 cy_X8_noPlayer ⟨rfl, by decide +kernel, by decide +kernel, by decide +kernel⟩ rfl ⟨Nat.le_of_ble_eq_true rfl, Nat.le_of_ble_eq_true rfl⟩ rfl (Nat.le_of_ble_eq_true rfl) hl.1 ⟨Nat.le_of_ble_eq_true rfl, Nat.le_of_ble_eq_true rfl⟩ dX8_setRule_2 (fun H locs w => ?_)
  refine lv_if_ne (tgt := 30) C.1 C.2.1 dX8_setRule_5 (by decide) (fun hc => ?_) (fun hc => ?_)
  · have h := (if_neg hc).symm.trans h
    refine lv_iconst (v := 0) C.1 C.2.1 dX8_setRule_30 (by decide) ?_
    exact g_iretB C w hr dX8_setRule_31 h
  · have h := (if_pos hc).symm.trans h
    refine lv_aload_n C.1 C.2.1 dX8_setRule_8 rfl (lv_at hl 0 rfl) ?_
    refine lv_iload_n C.1 C.2.1 dX8_setRule_9 rfl (lv_at hl 2 rfl) ?_
    refine lv_iconst (v := 0) C.1 C.2.1 dX8_setRule_10 (by decide) ?_
    refine lv_iconst (v := 3) C.1 C.2.1 dX8_setRule_11 (by decide) ?_
    obtain ⟨o2, ho2, h⟩ := g_bd h
    refine g_callS (n := 3) (As := [.int a2, .int 0, .int 3]) (rest := [.ref (B + th)]) C w (m_X8_within ho2) ml_X8_95 iy_X8_within in_X8 cy_X8_within ⟨by decide +kernel, by decide +kernel, by decide +kernel⟩ rfl ⟨Nat.le_of_ble_eq_true rfl, Nat.le_of_ble_eq_true rfl⟩ rfl (Nat.le_of_ble_eq_true rfl) hl.1 ⟨Nat.le_of_ble_eq_true rfl, Nat.le_of_ble_eq_true rfl⟩ dX8_setRule_12 (fun H locs w => ?_)
    refine lv_if_ne (tgt := 22) C.1 C.2.1 dX8_setRule_15 (by decide) (fun hc => ?_) (fun hc => ?_)
    · have h := (if_neg hc).symm.trans h
      refine lv_iconst (v := 0) C.1 C.2.1 dX8_setRule_22 (by decide) ?_
      exact B_23 _ _ _ _ _ h w (show lv_has ls 4 [(0, .ref (B + th)), (1, .int a1), (2, .int a2)] from lv_sub hl [0, 1, 2] rfl)
    · have h := (if_pos hc).symm.trans h
      refine lv_iconst (v := 1) C.1 C.2.1 dX8_setRule_18 (by decide) ?_
      refine lv_goto (tgt := 23) C.1 C.2.1 dX8_setRule_19 (by decide) ?_
      exact B_23 _ _ _ _ _ h w (show lv_has ls 4 [(0, .ref (B + th)), (1, .int a1), (2, .int a2)] from lv_sub hl [0, 1, 2] rfl)

set_option maxHeartbeats 4000000 in
set_option maxRecDepth 100000 in
theorem m_X8_setWeight {l : Launch} {D : va_G} {cA : Nat → ClassId} {B : Nat} {S : Nat → Prop} {σ : GS} {th : Nat} {a1 : Int32} {a2 : Int32} {o : GS × Int32} (sth : S th) (kth : kdG th = 8) (h0 : F_X8_setWeight σ th a1 a2 = some o) : MF l yX8_setWeight cX8_setWeight 4 (some .int) 3 65 D cA B S [.ref (B + th), .int a1, .int a2] σ o.1 (some (.int o.2)) := by
  refine MF.of (by decide +kernel) (Nat.le_of_ble_eq_true rfl) ?_
  intro p e s m args below meth c C hr w ls hl
  have hl : lv_has ls 4 [(0, .ref (B + th)), (1, .int a1), (2, .int a2)] := hl
  have B_24 : ∀ (σ : GS) (u0 : Int32) (H : Heap) (locs : List Loc) (ls : Array Slot), J_X8_setWeight_24 th a1 a2 σ u0 = some o → WS D cA B S σ s H locs → lv_has ls 4 [(0, .ref (B + th)), (1, .int a1), (2, .int a2)] → W p l e (rmF 3 65) s m args below meth c H locs 0 0 (MQ below (QF D cA B S o.1 (some (.int o.2))) args s 0 0 (AB B S)) (F0 m 24 ls [.int u0, .ref (B + th)]) := by
    intro σ u0 H locs ls h  w hl
    unfold J_X8_setWeight_24 at h
    refine lv_iconst (v := 2) C.1 C.2.1 dX8_setWeight_24 (by decide) ?_
    obtain ⟨o3, ho3, h⟩ := g_bd h
    refine g_callV (n := 2) (As := [.int u0, .int 2]) (rest := []) C w (m_X8_throwsIf sth kth ho3) (cl_8).1 sth kth (by decide) ml_X8_194 iy_X8_throwsIf sy_X8_throwsIf in_X8 cy_X8_throwsIf ⟨rfl, by decide +kernel, by decide +kernel, by decide +kernel⟩ rfl ⟨Nat.le_of_ble_eq_true rfl, Nat.le_of_ble_eq_true rfl⟩ rfl (Nat.le_of_ble_eq_true rfl) hl.1 ⟨Nat.le_of_ble_eq_true rfl, Nat.le_of_ble_eq_true rfl⟩ dX8_setWeight_25 (fun H locs w => ?_)
    refine lv_if_eq (tgt := 33) C.1 C.2.1 dX8_setWeight_28 (by decide) (fun hc => ?_) (fun hc => ?_)
    · have h := (if_pos hc).symm.trans h
      refine lv_aload_n C.1 C.2.1 dX8_setWeight_33 rfl (lv_at hl 0 rfl) ?_
      obtain ⟨o4, ho4, h⟩ := g_bd h
      refine g_callV (n := 0) (As := []) (rest := []) C w (m_X8_keeps sth kth ho4) (cl_8).1 sth kth (by decide) ml_X8_326 iy_X8_keeps sy_X8_keeps in_X8 cy_X8_keeps ⟨rfl, by decide +kernel, by decide +kernel, by decide +kernel⟩ rfl ⟨Nat.le_of_ble_eq_true rfl, Nat.le_of_ble_eq_true rfl⟩ rfl (Nat.le_of_ble_eq_true rfl) hl.1 ⟨Nat.le_of_ble_eq_true rfl, Nat.le_of_ble_eq_true rfl⟩ dX8_setWeight_34 (fun H locs w => ?_)
      refine lv_aload_n C.1 C.2.1 dX8_setWeight_37 rfl (lv_at hl 0 rfl) ?_
      refine lv_iload_n C.1 C.2.1 dX8_setWeight_38 rfl (lv_at hl 1 rfl) ?_
      refine lv_bipush (v := 13) C.1 C.2.1 dX8_setWeight_39 (by decide) ?_
      obtain ⟨o5, ho5, h⟩ := g_bd h
      refine g_callV (n := 2) (As := [.int a1, .int 13]) (rest := []) C w (m_X8_of sth kth ho5) (cl_8).1 sth kth (by decide) ml_X8_217 iy_X8_of sy_X8_of in_X8 cy_X8_of ⟨rfl, by decide +kernel, by decide +kernel, by decide +kernel⟩ rfl ⟨Nat.le_of_ble_eq_true rfl, Nat.le_of_ble_eq_true rfl⟩ rfl (Nat.le_of_ble_eq_true rfl) hl.1 ⟨Nat.le_of_ble_eq_true rfl, Nat.le_of_ble_eq_true rfl⟩ dX8_setWeight_41 (fun H locs w => ?_)
      refine lv_istore_n (lv' := [(3, .int o5), (0, .ref (B + th)), (1, .int a1), (2, .int a2)]) C.1 C.2.1 dX8_setWeight_44 rfl hl (by decide) rfl (fun ls hl => ?_)
      refine lv_aload_n C.1 C.2.1 dX8_setWeight_45 rfl (lv_at hl 1 rfl) ?_
      refine lv_iload_n C.1 C.2.1 dX8_setWeight_46 rfl (lv_at hl 2 rfl) ?_
      refine lv_bipush (v := 13) C.1 C.2.1 dX8_setWeight_47 (by decide) ?_
      refine lv_iload_n C.1 C.2.1 dX8_setWeight_49 rfl (lv_at hl 3 rfl) ?_
      obtain ⟨o6, ho6, h⟩ := g_bd h
      refine g_callV (n := 3) (As := [.int a1, .int 13, .int a2]) (rest := []) C w (m_X8_sets sth kth ho6) (cl_8).1 sth kth (by decide) ml_X8_206 iy_X8_sets sy_X8_sets in_X8 cy_X8_sets ⟨rfl, by decide +kernel, by decide +kernel, by decide +kernel⟩ rfl ⟨Nat.le_of_ble_eq_true rfl, Nat.le_of_ble_eq_true rfl⟩ rfl (Nat.le_of_ble_eq_true rfl) hl.1 ⟨Nat.le_of_ble_eq_true rfl, Nat.le_of_ble_eq_true rfl⟩ dX8_setWeight_50 (fun H locs w => ?_)
      refine lv_iload_n C.1 C.2.1 dX8_setWeight_53 rfl (lv_at hl 0 rfl) ?_
      exact g_iretB C w hr dX8_setWeight_54 h
    · have h := (if_neg hc).symm.trans h
      refine lv_iconst (v := 0) C.1 C.2.1 dX8_setWeight_31 (by decide) ?_
      exact g_iretB C w hr dX8_setWeight_32 h
  have h := h0
  unfold F_X8_setWeight at h
  refine lv_aload_n C.1 C.2.1 dX8_setWeight_0 rfl (lv_at hl 0 rfl) ?_
  refine lv_iload_n C.1 C.2.1 dX8_setWeight_1 rfl (lv_at hl 1 rfl) ?_
  obtain ⟨o1, ho1, h⟩ := g_bd h
  refine g_callV (n := 1) (As := [.int a1]) (rest := []) C w (m_X8_noPlayer sth kth ho1) (cl_8).1 sth kth (by decide) ml_X8_306 iy_X8_noPlayer sy_X8_noPlayer in_X8 cy_X8_noPlayer ⟨rfl, by decide +kernel, by decide +kernel, by decide +kernel⟩ rfl ⟨Nat.le_of_ble_eq_true rfl, Nat.le_of_ble_eq_true rfl⟩ rfl (Nat.le_of_ble_eq_true rfl) hl.1 ⟨Nat.le_of_ble_eq_true rfl, Nat.le_of_ble_eq_true rfl⟩ dX8_setWeight_2 (fun H locs w => ?_)
  refine lv_if_ne (tgt := 31) C.1 C.2.1 dX8_setWeight_5 (by decide) (fun hc => ?_) (fun hc => ?_)
  · have h := (if_neg hc).symm.trans h
    refine lv_iconst (v := 0) C.1 C.2.1 dX8_setWeight_31 (by decide) ?_
    exact g_iretB C w hr dX8_setWeight_32 h
  · have h := (if_pos hc).symm.trans h
    refine lv_aload_n C.1 C.2.1 dX8_setWeight_8 rfl (lv_at hl 0 rfl) ?_
    refine lv_iload_n C.1 C.2.1 dX8_setWeight_9 rfl (lv_at hl 2 rfl) ?_
    refine lv_iconst (v := 1) C.1 C.2.1 dX8_setWeight_10 (by decide) ?_
    refine lv_bipush (v := 9) C.1 C.2.1 dX8_setWeight_11 (by decide) ?_
    obtain ⟨o2, ho2, h⟩ := g_bd h
    refine g_callS (n := 3) (As := [.int a2, .int 1, .int 9]) (rest := [.ref (B + th)]) C w (m_X8_within ho2) ml_X8_95 iy_X8_within in_X8 cy_X8_within ⟨by decide +kernel, by decide +kernel, by decide +kernel⟩ rfl ⟨Nat.le_of_ble_eq_true rfl, Nat.le_of_ble_eq_true rfl⟩ rfl (Nat.le_of_ble_eq_true rfl) hl.1 ⟨Nat.le_of_ble_eq_true rfl, Nat.le_of_ble_eq_true rfl⟩ dX8_setWeight_13 (fun H locs w => ?_)
    refine lv_if_ne (tgt := 23) C.1 C.2.1 dX8_setWeight_16 (by decide) (fun hc => ?_) (fun hc => ?_)
    · have h := (if_neg hc).symm.trans h
      refine lv_iconst (v := 0) C.1 C.2.1 dX8_setWeight_23 (by decide) ?_
      exact B_24 _ _ _ _ _ h w (show lv_has ls 4 [(0, .ref (B + th)), (1, .int a1), (2, .int a2)] from lv_sub hl [0, 1, 2] rfl)
    · have h := (if_pos hc).symm.trans h
      refine lv_iconst (v := 1) C.1 C.2.1 dX8_setWeight_19 (by decide) ?_
      refine lv_goto (tgt := 24) C.1 C.2.1 dX8_setWeight_20 (by decide) ?_
      exact B_24 _ _ _ _ _ h w (show lv_has ls 4 [(0, .ref (B + th)), (1, .int a1), (2, .int a2)] from lv_sub hl [0, 1, 2] rfl)

set_option maxHeartbeats 4000000 in
set_option maxRecDepth 100000 in
theorem m_X8_setRate {l : Launch} {D : va_G} {cA : Nat → ClassId} {B : Nat} {S : Nat → Prop} {σ : GS} {th : Nat} {a1 : Int32} {a2 : Int32} {o : GS × Int32} (sth : S th) (kth : kdG th = 8) (h0 : F_X8_setRate σ th a1 a2 = some o) : MF l yX8_setRate cX8_setRate 4 (some .int) 2 45 D cA B S [.ref (B + th), .int a1, .int a2] σ o.1 (some (.int o.2)) := by
  refine MF.of (by decide +kernel) (Nat.le_of_ble_eq_true rfl) ?_
  intro p e s m args below meth c C hr w ls hl
  have hl : lv_has ls 4 [(0, .ref (B + th)), (1, .int a1), (2, .int a2)] := hl
  have B_36 : ∀ (σ : GS) (u0 : Int32) (H : Heap) (locs : List Loc) (ls : Array Slot), J_X8_setRate_36 th a1 a2 σ u0 = some o → WS D cA B S σ s H locs → lv_has ls 4 [(0, .ref (B + th)), (1, .int a1), (2, .int a2)] → W p l e (rmF 2 45) s m args below meth c H locs 0 0 (MQ below (QF D cA B S o.1 (some (.int o.2))) args s 0 0 (AB B S)) (F0 m 36 ls [.int u0, .ref (B + th)]) := by
    intro σ u0 H locs ls h  w hl
    unfold J_X8_setRate_36 at h
    refine lv_iconst (v := 2) C.1 C.2.1 dX8_setRate_36 (by decide) ?_
    obtain ⟨o5, ho5, h⟩ := g_bd h
    refine g_callV (n := 2) (As := [.int u0, .int 2]) (rest := []) C w (m_X8_throwsIf sth kth ho5) (cl_8).1 sth kth (by decide) ml_X8_194 iy_X8_throwsIf sy_X8_throwsIf in_X8 cy_X8_throwsIf ⟨rfl, by decide +kernel, by decide +kernel, by decide +kernel⟩ rfl ⟨Nat.le_of_ble_eq_true rfl, Nat.le_of_ble_eq_true rfl⟩ rfl (Nat.le_of_ble_eq_true rfl) hl.1 ⟨Nat.le_of_ble_eq_true rfl, Nat.le_of_ble_eq_true rfl⟩ dX8_setRate_37 (fun H locs w => ?_)
    refine lv_if_eq (tgt := 45) C.1 C.2.1 dX8_setRate_40 (by decide) (fun hc => ?_) (fun hc => ?_)
    · have h := (if_pos hc).symm.trans h
      refine lv_aload_n C.1 C.2.1 dX8_setRate_45 rfl (lv_at hl 0 rfl) ?_
      obtain ⟨o6, ho6, h⟩ := g_bd h
      refine g_callV (n := 0) (As := []) (rest := []) C w (m_X8_keeps sth kth ho6) (cl_8).1 sth kth (by decide) ml_X8_326 iy_X8_keeps sy_X8_keeps in_X8 cy_X8_keeps ⟨rfl, by decide +kernel, by decide +kernel, by decide +kernel⟩ rfl ⟨Nat.le_of_ble_eq_true rfl, Nat.le_of_ble_eq_true rfl⟩ rfl (Nat.le_of_ble_eq_true rfl) hl.1 ⟨Nat.le_of_ble_eq_true rfl, Nat.le_of_ble_eq_true rfl⟩ dX8_setRate_46 (fun H locs w => ?_)
      refine lv_aload_n C.1 C.2.1 dX8_setRate_49 rfl (lv_at hl 0 rfl) ?_
      refine g_getR C w fl_X8_17 sth kth (by decide) kt_8_3 (fun _ _ _ => rfl) dX8_setRate_50 (fun s7 k7 => ?_)
      refine lv_iconst (v := 1) C.1 C.2.1 dX8_setRate_53 (by decide) ?_
      refine lv_iload_n C.1 C.2.1 dX8_setRate_54 rfl (lv_at hl 1 rfl) ?_
      refine lv_iadd C.1 C.2.1 dX8_setRate_55 ?_
      obtain ⟨hb, h⟩ := g_ob h
      refine g_iald C w s7 k7 hb dX8_setRate_56 ?_
      refine lv_istore_n (lv' := [(3, .int (gI o6 (rfG th 3) (1 + a1).toNatClampNeg)), (0, .ref (B + th)), (1, .int a1), (2, .int a2)]) C.1 C.2.1 dX8_setRate_57 rfl hl (by decide) rfl (fun ls hl => ?_)
      refine lv_aload_n C.1 C.2.1 dX8_setRate_58 rfl (lv_at hl 1 rfl) ?_
      refine g_getR C w fl_X8_17 sth kth (by decide) kt_8_3 (fun _ _ _ => rfl) dX8_setRate_59 (fun s8 k8 => ?_)
      refine lv_iconst (v := 1) C.1 C.2.1 dX8_setRate_62 (by decide) ?_
      refine lv_iload_n C.1 C.2.1 dX8_setRate_63 rfl (lv_at hl 2 rfl) ?_
      refine lv_iadd C.1 C.2.1 dX8_setRate_64 ?_
      refine lv_iload_n C.1 C.2.1 dX8_setRate_65 rfl (lv_at hl 3 rfl) ?_
      obtain ⟨hb, h⟩ := g_ob h
      refine g_iast C w s8 k8 hb dX8_setRate_66 (fun H locs w => ?_)
      refine lv_iload_n C.1 C.2.1 dX8_setRate_67 rfl (lv_at hl 0 rfl) ?_
      exact g_iretB C w hr dX8_setRate_68 h
    · have h := (if_neg hc).symm.trans h
      refine lv_iconst (v := 0) C.1 C.2.1 dX8_setRate_43 (by decide) ?_
      exact g_iretB C w hr dX8_setRate_44 h
  have h := h0
  unfold F_X8_setRate at h
  refine lv_aload_n C.1 C.2.1 dX8_setRate_0 rfl (lv_at hl 0 rfl) ?_
  refine lv_iconst (v := 0) C.1 C.2.1 dX8_setRate_1 (by decide) ?_
  refine g_putI C w fw_X8_71 sth kth (by decide) (fun _ _ _ => rfl) rfl rfl dX8_setRate_2 (fun H locs w => ?_)
  refine lv_aload_n C.1 C.2.1 dX8_setRate_5 rfl (lv_at hl 0 rfl) ?_
  refine lv_iload_n C.1 C.2.1 dX8_setRate_6 rfl (lv_at hl 1 rfl) ?_
  refine lv_aload_n C.1 C.2.1 dX8_setRate_7 rfl (lv_at hl 0 rfl) ?_
  refine g_getR C w fl_X8_7 sth kth (by decide) kt_8_1 (fun _ _ _ => rfl) dX8_setRate_8 (fun s2 k2 => ?_)
  refine lv_iconst (v := 5) C.1 C.2.1 dX8_setRate_11 (by decide) ?_
  obtain ⟨hb, h⟩ := g_ob h
  refine g_iald C w s2 k2 hb dX8_setRate_12 ?_
  obtain ⟨o3, ho3, h⟩ := g_bd h
  refine g_callV (n := 2) (As := [.int a1, .int (gI (sI σ th 0 0) (rfG th 1) (5 : Int32).toNatClampNeg)]) (rest := []) C w (m_X8_no sth kth ho3) (cl_8).1 sth kth (by decide) ml_X8_303 iy_X8_no sy_X8_no in_X8 cy_X8_no ⟨rfl, by decide +kernel, by decide +kernel, by decide +kernel⟩ rfl ⟨Nat.le_of_ble_eq_true rfl, Nat.le_of_ble_eq_true rfl⟩ rfl (Nat.le_of_ble_eq_true rfl) hl.1 ⟨Nat.le_of_ble_eq_true rfl, Nat.le_of_ble_eq_true rfl⟩ dX8_setRate_13 (fun H locs w => ?_)
  refine lv_if_ne (tgt := 43) C.1 C.2.1 dX8_setRate_16 (by decide) (fun hc => ?_) (fun hc => ?_)
  · have h := (if_neg hc).symm.trans h
    refine lv_iconst (v := 0) C.1 C.2.1 dX8_setRate_43 (by decide) ?_
    exact g_iretB C w hr dX8_setRate_44 h
  · have h := (if_pos hc).symm.trans h
    refine lv_aload_n C.1 C.2.1 dX8_setRate_19 rfl (lv_at hl 0 rfl) ?_
    refine lv_iload_n C.1 C.2.1 dX8_setRate_20 rfl (lv_at hl 2 rfl) ?_
    refine lv_iconst (v := 0) C.1 C.2.1 dX8_setRate_21 (by decide) ?_
    refine lv_sipush (v := 9999) C.1 C.2.1 dX8_setRate_22 (by decide) ?_
    obtain ⟨o4, ho4, h⟩ := g_bd h
    refine g_callS (n := 3) (As := [.int a2, .int 0, .int 9999]) (rest := [.ref (B + th)]) C w (m_X8_within ho4) ml_X8_95 iy_X8_within in_X8 cy_X8_within ⟨by decide +kernel, by decide +kernel, by decide +kernel⟩ rfl ⟨Nat.le_of_ble_eq_true rfl, Nat.le_of_ble_eq_true rfl⟩ rfl (Nat.le_of_ble_eq_true rfl) hl.1 ⟨Nat.le_of_ble_eq_true rfl, Nat.le_of_ble_eq_true rfl⟩ dX8_setRate_25 (fun H locs w => ?_)
    refine lv_if_ne (tgt := 35) C.1 C.2.1 dX8_setRate_28 (by decide) (fun hc => ?_) (fun hc => ?_)
    · have h := (if_neg hc).symm.trans h
      refine lv_iconst (v := 0) C.1 C.2.1 dX8_setRate_35 (by decide) ?_
      exact B_36 _ _ _ _ _ h w (show lv_has ls 4 [(0, .ref (B + th)), (1, .int a1), (2, .int a2)] from lv_sub hl [0, 1, 2] rfl)
    · have h := (if_pos hc).symm.trans h
      refine lv_iconst (v := 1) C.1 C.2.1 dX8_setRate_31 (by decide) ?_
      refine lv_goto (tgt := 36) C.1 C.2.1 dX8_setRate_32 (by decide) ?_
      exact B_36 _ _ _ _ _ h w (show lv_has ls 4 [(0, .ref (B + th)), (1, .int a1), (2, .int a2)] from lv_sub hl [0, 1, 2] rfl)

set_option maxHeartbeats 4000000 in
set_option maxRecDepth 100000 in
theorem m_X8_quit {l : Launch} {D : va_G} {cA : Nat → ClassId} {B : Nat} {S : Nat → Prop} {σ : GS} {th : Nat} {a1 : Int32} {o : GS × Int32} (sth : S th) (kth : kdG th = 8) (h0 : F_X8_quit σ th a1 = some o) : MF l yX8_quit cX8_quit 2 (some .int) 3 65 D cA B S [.ref (B + th), .int a1] σ o.1 (some (.int o.2)) := by
  refine MF.of (by decide +kernel) (Nat.le_of_ble_eq_true rfl) ?_
  intro p e s m args below meth c C hr w ls hl
  have hl : lv_has ls 2 [(0, .ref (B + th)), (1, .int a1)] := hl
  have B_24 : ∀ (σ : GS) (u0 : Int32) (H : Heap) (locs : List Loc) (ls : Array Slot), J_X8_quit_24 th a1 σ u0 = some o → WS D cA B S σ s H locs → lv_has ls 2 [(0, .ref (B + th)), (1, .int a1)] → W p l e (rmF 3 65) s m args below meth c H locs 0 0 (MQ below (QF D cA B S o.1 (some (.int o.2))) args s 0 0 (AB B S)) (F0 m 24 ls [.int u0, .ref (B + th)]) := by
    intro σ u0 H locs ls h  w hl
    unfold J_X8_quit_24 at h
    refine lv_iconst (v := 2) C.1 C.2.1 dX8_quit_24 (by decide) ?_
    obtain ⟨o3, ho3, h⟩ := g_bd h
    refine g_callV (n := 2) (As := [.int u0, .int 2]) (rest := []) C w (m_X8_throwsIf sth kth ho3) (cl_8).1 sth kth (by decide) ml_X8_194 iy_X8_throwsIf sy_X8_throwsIf in_X8 cy_X8_throwsIf ⟨rfl, by decide +kernel, by decide +kernel, by decide +kernel⟩ rfl ⟨Nat.le_of_ble_eq_true rfl, Nat.le_of_ble_eq_true rfl⟩ rfl (Nat.le_of_ble_eq_true rfl) hl.1 ⟨Nat.le_of_ble_eq_true rfl, Nat.le_of_ble_eq_true rfl⟩ dX8_quit_25 (fun H locs w => ?_)
    refine lv_if_eq (tgt := 33) C.1 C.2.1 dX8_quit_28 (by decide) (fun hc => ?_) (fun hc => ?_)
    · have h := (if_pos hc).symm.trans h
      refine lv_aload_n C.1 C.2.1 dX8_quit_33 rfl (lv_at hl 0 rfl) ?_
      obtain ⟨o4, ho4, h⟩ := g_bd h
      refine g_callV (n := 0) (As := []) (rest := []) C w (m_X8_keeps sth kth ho4) (cl_8).1 sth kth (by decide) ml_X8_326 iy_X8_keeps sy_X8_keeps in_X8 cy_X8_keeps ⟨rfl, by decide +kernel, by decide +kernel, by decide +kernel⟩ rfl ⟨Nat.le_of_ble_eq_true rfl, Nat.le_of_ble_eq_true rfl⟩ rfl (Nat.le_of_ble_eq_true rfl) hl.1 ⟨Nat.le_of_ble_eq_true rfl, Nat.le_of_ble_eq_true rfl⟩ dX8_quit_34 (fun H locs w => ?_)
      refine lv_aload_n C.1 C.2.1 dX8_quit_37 rfl (lv_at hl 0 rfl) ?_
      refine lv_iload_n C.1 C.2.1 dX8_quit_38 rfl (lv_at hl 1 rfl) ?_
      refine lv_iconst (v := 0) C.1 C.2.1 dX8_quit_39 (by decide) ?_
      refine lv_iconst (v := 4) C.1 C.2.1 dX8_quit_40 (by decide) ?_
      obtain ⟨o5, ho5, h⟩ := g_bd h
      refine g_callV (n := 3) (As := [.int a1, .int 0, .int 4]) (rest := []) C w (m_X8_sets sth kth ho5) (cl_8).1 sth kth (by decide) ml_X8_206 iy_X8_sets sy_X8_sets in_X8 cy_X8_sets ⟨rfl, by decide +kernel, by decide +kernel, by decide +kernel⟩ rfl ⟨Nat.le_of_ble_eq_true rfl, Nat.le_of_ble_eq_true rfl⟩ rfl (Nat.le_of_ble_eq_true rfl) hl.1 ⟨Nat.le_of_ble_eq_true rfl, Nat.le_of_ble_eq_true rfl⟩ dX8_quit_41 (fun H locs w => ?_)
      refine lv_aload_n C.1 C.2.1 dX8_quit_44 rfl (lv_at hl 0 rfl) ?_
      refine lv_iload_n C.1 C.2.1 dX8_quit_45 rfl (lv_at hl 1 rfl) ?_
      refine lv_iconst (v := 3) C.1 C.2.1 dX8_quit_46 (by decide) ?_
      obtain ⟨o6, ho6, h⟩ := g_bd h
      refine g_callV (n := 2) (As := [.int a1, .int 3]) (rest := []) C w (m_X8_of sth kth ho6) (cl_8).1 sth kth (by decide) ml_X8_217 iy_X8_of sy_X8_of in_X8 cy_X8_of ⟨rfl, by decide +kernel, by decide +kernel, by decide +kernel⟩ rfl ⟨Nat.le_of_ble_eq_true rfl, Nat.le_of_ble_eq_true rfl⟩ rfl (Nat.le_of_ble_eq_true rfl) hl.1 ⟨Nat.le_of_ble_eq_true rfl, Nat.le_of_ble_eq_true rfl⟩ dX8_quit_47 (fun H locs w => ?_)
      refine lv_iconst (v := (-1)) C.1 C.2.1 dX8_quit_50 (by decide) ?_
      refine lv_icmp_ne (tgt := 58) C.1 C.2.1 dX8_quit_51 (by decide) (fun hc => ?_) (fun hc => ?_)
      · have h := (if_neg hc).symm.trans h
        refine lv_aload_n C.1 C.2.1 dX8_quit_58 rfl (lv_at hl 0 rfl) ?_
        refine lv_iload_n C.1 C.2.1 dX8_quit_59 rfl (lv_at hl 1 rfl) ?_
        refine lv_aload_n C.1 C.2.1 dX8_quit_60 rfl (lv_at hl 0 rfl) ?_
        refine lv_iload_n C.1 C.2.1 dX8_quit_61 rfl (lv_at hl 1 rfl) ?_
        refine lv_iconst (v := 2) C.1 C.2.1 dX8_quit_62 (by decide) ?_
        obtain ⟨o7, ho7, h⟩ := g_bd h
        refine g_callV (n := 2) (As := [.int a1, .int 2]) (rest := [.int a1, .ref (B + th)]) C w (m_X8_of sth kth ho7) (cl_8).1 sth kth (by decide) ml_X8_217 iy_X8_of sy_X8_of in_X8 cy_X8_of ⟨rfl, by decide +kernel, by decide +kernel, by decide +kernel⟩ rfl ⟨Nat.le_of_ble_eq_true rfl, Nat.le_of_ble_eq_true rfl⟩ rfl (Nat.le_of_ble_eq_true rfl) hl.1 ⟨Nat.le_of_ble_eq_true rfl, Nat.le_of_ble_eq_true rfl⟩ dX8_quit_63 (fun H locs w => ?_)
        refine lv_aload_n C.1 C.2.1 dX8_quit_66 rfl (lv_at hl 0 rfl) ?_
        refine lv_iload_n C.1 C.2.1 dX8_quit_67 rfl (lv_at hl 1 rfl) ?_
        refine lv_iconst (v := 3) C.1 C.2.1 dX8_quit_68 (by decide) ?_
        obtain ⟨o8, ho8, h⟩ := g_bd h
        refine g_callV (n := 2) (As := [.int a1, .int 3]) (rest := [.int o7, .int a1, .ref (B + th)]) C w (m_X8_of sth kth ho8) (cl_8).1 sth kth (by decide) ml_X8_217 iy_X8_of sy_X8_of in_X8 cy_X8_of ⟨rfl, by decide +kernel, by decide +kernel, by decide +kernel⟩ rfl ⟨Nat.le_of_ble_eq_true rfl, Nat.le_of_ble_eq_true rfl⟩ rfl (Nat.le_of_ble_eq_true rfl) hl.1 ⟨Nat.le_of_ble_eq_true rfl, Nat.le_of_ble_eq_true rfl⟩ dX8_quit_69 (fun H locs w => ?_)
        obtain ⟨o9, ho9, h⟩ := g_bd h
        refine g_callV (n := 3) (As := [.int a1, .int o7, .int o8]) (rest := []) C w (m_X8_sizeAt sth kth ho9) (cl_8).1 sth kth (by decide) ml_X8_223 iy_X8_sizeAt sy_X8_sizeAt in_X8 cy_X8_sizeAt ⟨rfl, by decide +kernel, by decide +kernel, by decide +kernel⟩ rfl ⟨Nat.le_of_ble_eq_true rfl, Nat.le_of_ble_eq_true rfl⟩ rfl (Nat.le_of_ble_eq_true rfl) hl.1 ⟨Nat.le_of_ble_eq_true rfl, Nat.le_of_ble_eq_true rfl⟩ dX8_quit_72 (fun H locs w => ?_)
        refine lv_aload_n C.1 C.2.1 dX8_quit_75 rfl (lv_at hl 0 rfl) ?_
        refine lv_iload_n C.1 C.2.1 dX8_quit_76 rfl (lv_at hl 1 rfl) ?_
        refine lv_iconst (v := 4) C.1 C.2.1 dX8_quit_77 (by decide) ?_
        obtain ⟨o10, ho10, h⟩ := g_bd h
        refine g_callV (n := 2) (As := [.int a1, .int 4]) (rest := [.int o9]) C w (m_X8_of sth kth ho10) (cl_8).1 sth kth (by decide) ml_X8_217 iy_X8_of sy_X8_of in_X8 cy_X8_of ⟨rfl, by decide +kernel, by decide +kernel, by decide +kernel⟩ rfl ⟨Nat.le_of_ble_eq_true rfl, Nat.le_of_ble_eq_true rfl⟩ rfl (Nat.le_of_ble_eq_true rfl) hl.1 ⟨Nat.le_of_ble_eq_true rfl, Nat.le_of_ble_eq_true rfl⟩ dX8_quit_78 (fun H locs w => ?_)
        refine lv_isub C.1 C.2.1 dX8_quit_81 ?_
        exact g_iretB C w hr dX8_quit_82 h
      · have h := (if_pos hc).symm.trans h
        refine lv_iconst (v := 0) C.1 C.2.1 dX8_quit_54 (by decide) ?_
        refine lv_goto (tgt := 82) C.1 C.2.1 dX8_quit_55 (by decide) ?_
        exact g_iretB C w hr dX8_quit_82 h
    · have h := (if_neg hc).symm.trans h
      refine lv_iconst (v := 0) C.1 C.2.1 dX8_quit_31 (by decide) ?_
      exact g_iretB C w hr dX8_quit_32 h
  have h := h0
  unfold F_X8_quit at h
  refine lv_aload_n C.1 C.2.1 dX8_quit_0 rfl (lv_at hl 0 rfl) ?_
  refine lv_iload_n C.1 C.2.1 dX8_quit_1 rfl (lv_at hl 1 rfl) ?_
  obtain ⟨o1, ho1, h⟩ := g_bd h
  refine g_callV (n := 1) (As := [.int a1]) (rest := []) C w (m_X8_noPlayer sth kth ho1) (cl_8).1 sth kth (by decide) ml_X8_306 iy_X8_noPlayer sy_X8_noPlayer in_X8 cy_X8_noPlayer ⟨rfl, by decide +kernel, by decide +kernel, by decide +kernel⟩ rfl ⟨Nat.le_of_ble_eq_true rfl, Nat.le_of_ble_eq_true rfl⟩ rfl (Nat.le_of_ble_eq_true rfl) hl.1 ⟨Nat.le_of_ble_eq_true rfl, Nat.le_of_ble_eq_true rfl⟩ dX8_quit_2 (fun H locs w => ?_)
  refine lv_if_ne (tgt := 31) C.1 C.2.1 dX8_quit_5 (by decide) (fun hc => ?_) (fun hc => ?_)
  · have h := (if_neg hc).symm.trans h
    refine lv_iconst (v := 0) C.1 C.2.1 dX8_quit_31 (by decide) ?_
    exact g_iretB C w hr dX8_quit_32 h
  · have h := (if_pos hc).symm.trans h
    refine lv_aload_n C.1 C.2.1 dX8_quit_8 rfl (lv_at hl 0 rfl) ?_
    refine lv_aload_n C.1 C.2.1 dX8_quit_9 rfl (lv_at hl 0 rfl) ?_
    refine lv_iload_n C.1 C.2.1 dX8_quit_10 rfl (lv_at hl 1 rfl) ?_
    refine lv_iconst (v := 0) C.1 C.2.1 dX8_quit_11 (by decide) ?_
    obtain ⟨o2, ho2, h⟩ := g_bd h
    refine g_callV (n := 2) (As := [.int a1, .int 0]) (rest := [.ref (B + th)]) C w (m_X8_of sth kth ho2) (cl_8).1 sth kth (by decide) ml_X8_217 iy_X8_of sy_X8_of in_X8 cy_X8_of ⟨rfl, by decide +kernel, by decide +kernel, by decide +kernel⟩ rfl ⟨Nat.le_of_ble_eq_true rfl, Nat.le_of_ble_eq_true rfl⟩ rfl (Nat.le_of_ble_eq_true rfl) hl.1 ⟨Nat.le_of_ble_eq_true rfl, Nat.le_of_ble_eq_true rfl⟩ dX8_quit_12 (fun H locs w => ?_)
    refine lv_iconst (v := 3) C.1 C.2.1 dX8_quit_15 (by decide) ?_
    refine lv_icmp_lt (tgt := 23) C.1 C.2.1 dX8_quit_16 (by decide) (fun hc => ?_) (fun hc => ?_)
    · have h := (if_pos hc).symm.trans h
      refine lv_iconst (v := 0) C.1 C.2.1 dX8_quit_23 (by decide) ?_
      exact B_24 _ _ _ _ _ h w (show lv_has ls 2 [(0, .ref (B + th)), (1, .int a1)] from lv_sub hl [0, 1] rfl)
    · have h := (if_neg hc).symm.trans h
      refine lv_iconst (v := 1) C.1 C.2.1 dX8_quit_19 (by decide) ?_
      refine lv_goto (tgt := 24) C.1 C.2.1 dX8_quit_20 (by decide) ?_
      exact B_24 _ _ _ _ _ h w (show lv_has ls 2 [(0, .ref (B + th)), (1, .int a1)] from lv_sub hl [0, 1] rfl)

