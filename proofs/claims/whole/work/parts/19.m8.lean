set_option maxHeartbeats 4000000 in
set_option maxRecDepth 100000 in
theorem m_X8_rate {l : Launch} {D : va_G} {cA : Nat → ClassId} {B : Nat} {S : Nat → Prop} {σ : GS} {th : Nat} {a1 : Int32} {o : GS × Int32} (sth : S th) (kth : kdG th = 8) (h0 : F_X8_rate σ th a1 = some o) : MF l yX8_rate cX8_rate 2 (some .int) 1 24 D cA B S [.ref (B + th), .int a1] σ o.1 (some (.int o.2)) := by
  refine MF.of (by decide +kernel) (Nat.le_of_ble_eq_true rfl) ?_
  intro p e s m args below meth c C hr w ls hl
  have hl : lv_has ls 2 [(0, .ref (B + th)), (1, .int a1)] := hl
  have B_15 : ∀ (σ : GS) (u0 : Int32) (H : Heap) (locs : List Loc) (ls : Array Slot), J_X8_rate_15 th a1 σ u0 = some o → WS D cA B S σ s H locs → lv_has ls 2 [(0, .ref (B + th)), (1, .int a1)] → W p l e (rmF 1 24) s m args below meth c H locs 0 0 (MQ below (QF D cA B S o.1 (some (.int o.2))) args s 0 0 (AB B S)) (F0 m 15 ls [.int u0, .ref (B + th)]) := by
    intro σ u0 H locs ls h  w hl
    unfold J_X8_rate_15 at h
    refine lv_iconst (v := 1) C.1 C.2.1 dX8_rate_15 (by decide) ?_
    obtain ⟨o2, ho2, h⟩ := g_bd h
    refine g_callV (n := 2) (As := [.int u0, .int 1]) (rest := []) C w (m_X8_throwsIf sth kth ho2) (cl_8).1 sth kth (by decide) ml_X8_194 iy_X8_throwsIf sy_X8_throwsIf in_X8 cy_X8_throwsIf ⟨rfl, by decide +kernel, by decide +kernel, by decide +kernel⟩ rfl ⟨Nat.le_of_ble_eq_true rfl, Nat.le_of_ble_eq_true rfl⟩ rfl (Nat.le_of_ble_eq_true rfl) hl.1 ⟨Nat.le_of_ble_eq_true rfl, Nat.le_of_ble_eq_true rfl⟩ dX8_rate_16 (fun H locs w => ?_)
    refine lv_if_eq (tgt := 26) C.1 C.2.1 dX8_rate_19 (by decide) (fun hc => ?_) (fun hc => ?_)
    · have h := (if_pos hc).symm.trans h
      refine lv_aload_n C.1 C.2.1 dX8_rate_26 rfl (lv_at hl 0 rfl) ?_
      refine lv_iload_n C.1 C.2.1 dX8_rate_27 rfl (lv_at hl 1 rfl) ?_
      obtain ⟨o3, ho3, h⟩ := g_bd h
      refine g_callV (n := 1) (As := [.int a1]) (rest := []) C w (m_X8_rateAt sth kth ho3) (cl_8).1 sth kth (by decide) ml_X8_251 iy_X8_rateAt sy_X8_rateAt in_X8 cy_X8_rateAt ⟨rfl, by decide +kernel, by decide +kernel, by decide +kernel⟩ rfl ⟨Nat.le_of_ble_eq_true rfl, Nat.le_of_ble_eq_true rfl⟩ rfl (Nat.le_of_ble_eq_true rfl) hl.1 ⟨Nat.le_of_ble_eq_true rfl, Nat.le_of_ble_eq_true rfl⟩ dX8_rate_28 (fun H locs w => ?_)
      exact g_iretB C w hr dX8_rate_31 h
    · have h := (if_neg hc).symm.trans h
      refine lv_iconst (v := 0) C.1 C.2.1 dX8_rate_22 (by decide) ?_
      refine lv_goto (tgt := 31) C.1 C.2.1 dX8_rate_23 (by decide) ?_
      exact g_iretB C w hr dX8_rate_31 h
  have h := h0
  unfold F_X8_rate at h
  refine lv_aload_n C.1 C.2.1 dX8_rate_0 rfl (lv_at hl 0 rfl) ?_
  refine lv_iconst (v := 0) C.1 C.2.1 dX8_rate_1 (by decide) ?_
  refine g_putI C w fw_X8_71 sth kth (by decide) (fun _ _ _ => rfl) rfl rfl dX8_rate_2 (fun H locs w => ?_)
  refine lv_aload_n C.1 C.2.1 dX8_rate_5 rfl (lv_at hl 0 rfl) ?_
  refine lv_iload_n C.1 C.2.1 dX8_rate_6 rfl (lv_at hl 1 rfl) ?_
  refine lv_if_ge (tgt := 14) C.1 C.2.1 dX8_rate_7 (by decide) (fun hc => ?_) (fun hc => ?_)
  · have h := (if_pos hc).symm.trans h
    refine lv_iconst (v := 0) C.1 C.2.1 dX8_rate_14 (by decide) ?_
    exact B_15 _ _ _ _ _ h w (show lv_has ls 2 [(0, .ref (B + th)), (1, .int a1)] from lv_sub hl [0, 1] rfl)
  · have h := (if_neg hc).symm.trans h
    refine lv_iconst (v := 1) C.1 C.2.1 dX8_rate_10 (by decide) ?_
    refine lv_goto (tgt := 15) C.1 C.2.1 dX8_rate_11 (by decide) ?_
    exact B_15 _ _ _ _ _ h w (show lv_has ls 2 [(0, .ref (B + th)), (1, .int a1)] from lv_sub hl [0, 1] rfl)

set_option maxHeartbeats 4000000 in
set_option maxRecDepth 100000 in
theorem m_X8_no {l : Launch} {D : va_G} {cA : Nat → ClassId} {B : Nat} {S : Nat → Prop} {σ : GS} {th : Nat} {a1 : Int32} {a2 : Int32} {o : GS × Int32} (sth : S th) (kth : kdG th = 8) (h0 : F_X8_no σ th a1 a2 = some o) : MF l yX8_no cX8_no 3 (some .boolean) 1 22 D cA B S [.ref (B + th), .int a1, .int a2] σ o.1 (some (.int o.2)) := by
  refine MF.of (by decide +kernel) (Nat.le_of_ble_eq_true rfl) ?_
  intro p e s m args below meth c C hr w ls hl
  have hl : lv_has ls 3 [(0, .ref (B + th)), (1, .int a1), (2, .int a2)] := hl
  have h := h0
  unfold F_X8_no at h
  refine lv_aload_n C.1 C.2.1 dX8_no_0 rfl (lv_at hl 0 rfl) ?_
  refine lv_iload_n C.1 C.2.1 dX8_no_1 rfl (lv_at hl 1 rfl) ?_
  refine lv_iconst (v := 0) C.1 C.2.1 dX8_no_2 (by decide) ?_
  refine lv_iload_n C.1 C.2.1 dX8_no_3 rfl (lv_at hl 2 rfl) ?_
  refine lv_iconst (v := 1) C.1 C.2.1 dX8_no_4 (by decide) ?_
  refine lv_isub C.1 C.2.1 dX8_no_5 ?_
  obtain ⟨o1, ho1, h⟩ := g_bd h
  refine g_callS (n := 3) (As := [.int a1, .int 0, .int (a2 - 1)]) (rest := [.ref (B + th)]) C w (m_X8_within ho1) ml_X8_95 iy_X8_within in_X8 cy_X8_within ⟨by decide +kernel, by decide +kernel, by decide +kernel⟩ rfl ⟨Nat.le_of_ble_eq_true rfl, Nat.le_of_ble_eq_true rfl⟩ rfl (Nat.le_of_ble_eq_true rfl) hl.1 ⟨Nat.le_of_ble_eq_true rfl, Nat.le_of_ble_eq_true rfl⟩ dX8_no_6 (fun H locs w => ?_)
  refine lv_if_ne (tgt := 16) C.1 C.2.1 dX8_no_9 (by decide) (fun hc => ?_) (fun hc => ?_)
  · have h := (if_neg hc).symm.trans h
    refine lv_iconst (v := 0) C.1 C.2.1 dX8_no_16 (by decide) ?_
    refine lv_iconst (v := 1) C.1 C.2.1 dX8_no_17 (by decide) ?_
    obtain ⟨o2, ho2, h⟩ := g_bd h
    refine g_callV (n := 2) (As := [.int 0, .int 1]) (rest := []) C w (m_X8_throwsIf sth kth ho2) (cl_8).1 sth kth (by decide) ml_X8_194 iy_X8_throwsIf sy_X8_throwsIf in_X8 cy_X8_throwsIf ⟨rfl, by decide +kernel, by decide +kernel, by decide +kernel⟩ rfl ⟨Nat.le_of_ble_eq_true rfl, Nat.le_of_ble_eq_true rfl⟩ rfl (Nat.le_of_ble_eq_true rfl) hl.1 ⟨Nat.le_of_ble_eq_true rfl, Nat.le_of_ble_eq_true rfl⟩ dX8_no_18 (fun H locs w => ?_)
    obtain ⟨hb, hf, h⟩ := g_obz h
    exact g_zretB C w hr hb dX8_no_21 h
  · have h := (if_pos hc).symm.trans h
    refine lv_iconst (v := 1) C.1 C.2.1 dX8_no_12 (by decide) ?_
    refine lv_goto (tgt := 17) C.1 C.2.1 dX8_no_13 (by decide) ?_
    refine lv_iconst (v := 1) C.1 C.2.1 dX8_no_17 (by decide) ?_
    obtain ⟨o3, ho3, h⟩ := g_bd h
    refine g_callV (n := 2) (As := [.int 1, .int 1]) (rest := []) C w (m_X8_throwsIf sth kth ho3) (cl_8).1 sth kth (by decide) ml_X8_194 iy_X8_throwsIf sy_X8_throwsIf in_X8 cy_X8_throwsIf ⟨rfl, by decide +kernel, by decide +kernel, by decide +kernel⟩ rfl ⟨Nat.le_of_ble_eq_true rfl, Nat.le_of_ble_eq_true rfl⟩ rfl (Nat.le_of_ble_eq_true rfl) hl.1 ⟨Nat.le_of_ble_eq_true rfl, Nat.le_of_ble_eq_true rfl⟩ dX8_no_18 (fun H locs w => ?_)
    obtain ⟨hb, hf, h⟩ := g_obz h
    exact g_zretB C w hr hb dX8_no_21 h

set_option maxHeartbeats 4000000 in
set_option maxRecDepth 100000 in
theorem m_X8_noPlayer {l : Launch} {D : va_G} {cA : Nat → ClassId} {B : Nat} {S : Nat → Prop} {σ : GS} {th : Nat} {a1 : Int32} {o : GS × Int32} (sth : S th) (kth : kdG th = 8) (h0 : F_X8_noPlayer σ th a1 = some o) : MF l yX8_noPlayer cX8_noPlayer 2 (some .boolean) 2 44 D cA B S [.ref (B + th), .int a1] σ o.1 (some (.int o.2)) := by
  refine MF.of (by decide +kernel) (Nat.le_of_ble_eq_true rfl) ?_
  intro p e s m args below meth c C hr w ls hl
  have hl : lv_has ls 2 [(0, .ref (B + th)), (1, .int a1)] := hl
  have h := h0
  unfold F_X8_noPlayer at h
  refine lv_aload_n C.1 C.2.1 dX8_noPlayer_0 rfl (lv_at hl 0 rfl) ?_
  refine lv_iconst (v := 0) C.1 C.2.1 dX8_noPlayer_1 (by decide) ?_
  refine g_putI C w fw_X8_71 sth kth (by decide) (fun _ _ _ => rfl) rfl rfl dX8_noPlayer_2 (fun H locs w => ?_)
  refine lv_aload_n C.1 C.2.1 dX8_noPlayer_5 rfl (lv_at hl 0 rfl) ?_
  refine lv_iload_n C.1 C.2.1 dX8_noPlayer_6 rfl (lv_at hl 1 rfl) ?_
  refine lv_aload_n C.1 C.2.1 dX8_noPlayer_7 rfl (lv_at hl 0 rfl) ?_
  refine g_getR C w fl_X8_7 sth kth (by decide) kt_8_1 (fun _ _ _ => rfl) dX8_noPlayer_8 (fun s2 k2 => ?_)
  refine lv_iconst (v := 4) C.1 C.2.1 dX8_noPlayer_11 (by decide) ?_
  obtain ⟨hb, h⟩ := g_ob h
  refine g_iald C w s2 k2 hb dX8_noPlayer_12 ?_
  obtain ⟨o3, ho3, h⟩ := g_bd h
  refine g_callV (n := 2) (As := [.int a1, .int (gI (sI σ th 0 0) (rfG th 1) (4 : Int32).toNatClampNeg)]) (rest := []) C w (m_X8_no sth kth ho3) (cl_8).1 sth kth (by decide) ml_X8_303 iy_X8_no sy_X8_no in_X8 cy_X8_no ⟨rfl, by decide +kernel, by decide +kernel, by decide +kernel⟩ rfl ⟨Nat.le_of_ble_eq_true rfl, Nat.le_of_ble_eq_true rfl⟩ rfl (Nat.le_of_ble_eq_true rfl) hl.1 ⟨Nat.le_of_ble_eq_true rfl, Nat.le_of_ble_eq_true rfl⟩ dX8_noPlayer_13 (fun H locs w => ?_)
  obtain ⟨hb, hf, h⟩ := g_obz h
  exact g_zretB C w hr hb dX8_noPlayer_16 h

set_option maxHeartbeats 4000000 in
set_option maxRecDepth 100000 in
theorem m_X8_player {l : Launch} {D : va_G} {cA : Nat → ClassId} {B : Nat} {S : Nat → Prop} {σ : GS} {th : Nat} {a1 : Int32} {a2 : Int32} {o : GS × Int32} (sth : S th) (kth : kdG th = 8) (h0 : F_X8_player σ th a1 a2 = some o) : MF l yX8_player cX8_player 3 (some .int) 3 65 D cA B S [.ref (B + th), .int a1, .int a2] σ o.1 (some (.int o.2)) := by
  refine MF.of (by decide +kernel) (Nat.le_of_ble_eq_true rfl) ?_
  intro p e s m args below meth c C hr w ls hl
  have hl : lv_has ls 3 [(0, .ref (B + th)), (1, .int a1), (2, .int a2)] := hl
  have B_24 : ∀ (σ : GS) (u0 : Int32) (H : Heap) (locs : List Loc) (ls : Array Slot), J_X8_player_24 th a1 a2 σ u0 = some o → WS D cA B S σ s H locs → lv_has ls 3 [(0, .ref (B + th)), (1, .int a1), (2, .int a2)] → W p l e (rmF 3 65) s m args below meth c H locs 0 0 (MQ below (QF D cA B S o.1 (some (.int o.2))) args s 0 0 (AB B S)) (F0 m 24 ls [.int u0, .ref (B + th)]) := by
    intro σ u0 H locs ls h  w hl
    unfold J_X8_player_24 at h
    refine lv_iconst (v := 2) C.1 C.2.1 dX8_player_24 (by decide) ?_
    obtain ⟨o3, ho3, h⟩ := g_bd h
    refine g_callV (n := 2) (As := [.int u0, .int 2]) (rest := []) C w (m_X8_throwsIf sth kth ho3) (cl_8).1 sth kth (by decide) ml_X8_194 iy_X8_throwsIf sy_X8_throwsIf in_X8 cy_X8_throwsIf ⟨rfl, by decide +kernel, by decide +kernel, by decide +kernel⟩ rfl ⟨Nat.le_of_ble_eq_true rfl, Nat.le_of_ble_eq_true rfl⟩ rfl (Nat.le_of_ble_eq_true rfl) hl.1 ⟨Nat.le_of_ble_eq_true rfl, Nat.le_of_ble_eq_true rfl⟩ dX8_player_25 (fun H locs w => ?_)
    refine lv_if_eq (tgt := 33) C.1 C.2.1 dX8_player_28 (by decide) (fun hc => ?_) (fun hc => ?_)
    · have h := (if_pos hc).symm.trans h
      refine lv_iload_n C.1 C.2.1 dX8_player_33 rfl (lv_at hl 2 rfl) ?_
      refine lv_iconst (v := 4) C.1 C.2.1 dX8_player_34 (by decide) ?_
      refine lv_icmp_ne (tgt := 59) C.1 C.2.1 dX8_player_35 (by decide) (fun hc => ?_) (fun hc => ?_)
      · have h := (if_neg hc).symm.trans h
        refine lv_iload_n C.1 C.2.1 dX8_player_59 rfl (lv_at hl 2 rfl) ?_
        refine lv_bipush (v := 14) C.1 C.2.1 dX8_player_60 (by decide) ?_
        refine lv_icmp_ge (tgt := 74) C.1 C.2.1 dX8_player_62 (by decide) (fun hc => ?_) (fun hc => ?_)
        · have h := (if_pos hc).symm.trans h
          refine lv_aload_n C.1 C.2.1 dX8_player_74 rfl (lv_at hl 0 rfl) ?_
          refine lv_iload_n C.1 C.2.1 dX8_player_75 rfl (lv_at hl 1 rfl) ?_
          refine lv_iload_n C.1 C.2.1 dX8_player_76 rfl (lv_at hl 2 rfl) ?_
          refine lv_bipush (v := 14) C.1 C.2.1 dX8_player_77 (by decide) ?_
          refine lv_isub C.1 C.2.1 dX8_player_79 ?_
          obtain ⟨o4, ho4, h⟩ := g_bd h
          refine g_callV (n := 2) (As := [.int a1, .int (a2 - 14)]) (rest := []) C w (m_X8_toldOf sth kth ho4) (cl_8).1 sth kth (by decide) ml_X8_213 iy_X8_toldOf sy_X8_toldOf in_X8 cy_X8_toldOf ⟨rfl, by decide +kernel, by decide +kernel, by decide +kernel⟩ rfl ⟨Nat.le_of_ble_eq_true rfl, Nat.le_of_ble_eq_true rfl⟩ rfl (Nat.le_of_ble_eq_true rfl) hl.1 ⟨Nat.le_of_ble_eq_true rfl, Nat.le_of_ble_eq_true rfl⟩ dX8_player_80 (fun H locs w => ?_)
          exact g_iretB C w hr dX8_player_83 h
        · have h := (if_neg hc).symm.trans h
          refine lv_aload_n C.1 C.2.1 dX8_player_65 rfl (lv_at hl 0 rfl) ?_
          refine lv_iload_n C.1 C.2.1 dX8_player_66 rfl (lv_at hl 1 rfl) ?_
          refine lv_iload_n C.1 C.2.1 dX8_player_67 rfl (lv_at hl 2 rfl) ?_
          obtain ⟨o5, ho5, h⟩ := g_bd h
          refine g_callV (n := 2) (As := [.int a1, .int a2]) (rest := []) C w (m_X8_of sth kth ho5) (cl_8).1 sth kth (by decide) ml_X8_217 iy_X8_of sy_X8_of in_X8 cy_X8_of ⟨rfl, by decide +kernel, by decide +kernel, by decide +kernel⟩ rfl ⟨Nat.le_of_ble_eq_true rfl, Nat.le_of_ble_eq_true rfl⟩ rfl (Nat.le_of_ble_eq_true rfl) hl.1 ⟨Nat.le_of_ble_eq_true rfl, Nat.le_of_ble_eq_true rfl⟩ dX8_player_68 (fun H locs w => ?_)
          refine lv_goto (tgt := 83) C.1 C.2.1 dX8_player_71 (by decide) ?_
          exact g_iretB C w hr dX8_player_83 h
      · have h := (if_pos hc).symm.trans h
        refine lv_aload_n C.1 C.2.1 dX8_player_38 rfl (lv_at hl 0 rfl) ?_
        refine lv_iload_n C.1 C.2.1 dX8_player_39 rfl (lv_at hl 1 rfl) ?_
        refine lv_iconst (v := 3) C.1 C.2.1 dX8_player_40 (by decide) ?_
        obtain ⟨o6, ho6, h⟩ := g_bd h
        refine g_callV (n := 2) (As := [.int a1, .int 3]) (rest := []) C w (m_X8_of sth kth ho6) (cl_8).1 sth kth (by decide) ml_X8_217 iy_X8_of sy_X8_of in_X8 cy_X8_of ⟨rfl, by decide +kernel, by decide +kernel, by decide +kernel⟩ rfl ⟨Nat.le_of_ble_eq_true rfl, Nat.le_of_ble_eq_true rfl⟩ rfl (Nat.le_of_ble_eq_true rfl) hl.1 ⟨Nat.le_of_ble_eq_true rfl, Nat.le_of_ble_eq_true rfl⟩ dX8_player_41 (fun H locs w => ?_)
        refine lv_iconst (v := (-1)) C.1 C.2.1 dX8_player_44 (by decide) ?_
        refine lv_icmp_ne (tgt := 52) C.1 C.2.1 dX8_player_45 (by decide) (fun hc => ?_) (fun hc => ?_)
        · have h := (if_neg hc).symm.trans h
          refine lv_aload_n C.1 C.2.1 dX8_player_52 rfl (lv_at hl 0 rfl) ?_
          refine lv_iload_n C.1 C.2.1 dX8_player_53 rfl (lv_at hl 1 rfl) ?_
          refine lv_iconst (v := 4) C.1 C.2.1 dX8_player_54 (by decide) ?_
          obtain ⟨o7, ho7, h⟩ := g_bd h
          refine g_callV (n := 2) (As := [.int a1, .int 4]) (rest := []) C w (m_X8_of sth kth ho7) (cl_8).1 sth kth (by decide) ml_X8_217 iy_X8_of sy_X8_of in_X8 cy_X8_of ⟨rfl, by decide +kernel, by decide +kernel, by decide +kernel⟩ rfl ⟨Nat.le_of_ble_eq_true rfl, Nat.le_of_ble_eq_true rfl⟩ rfl (Nat.le_of_ble_eq_true rfl) hl.1 ⟨Nat.le_of_ble_eq_true rfl, Nat.le_of_ble_eq_true rfl⟩ dX8_player_55 (fun H locs w => ?_)
          exact g_iretB C w hr dX8_player_58 h
        · have h := (if_pos hc).symm.trans h
          refine lv_iconst (v := 0) C.1 C.2.1 dX8_player_48 (by decide) ?_
          refine lv_goto (tgt := 58) C.1 C.2.1 dX8_player_49 (by decide) ?_
          exact g_iretB C w hr dX8_player_58 h
    · have h := (if_neg hc).symm.trans h
      refine lv_iconst (v := 0) C.1 C.2.1 dX8_player_31 (by decide) ?_
      exact g_iretB C w hr dX8_player_32 h
  have h := h0
  unfold F_X8_player at h
  refine lv_aload_n C.1 C.2.1 dX8_player_0 rfl (lv_at hl 0 rfl) ?_
  refine lv_iload_n C.1 C.2.1 dX8_player_1 rfl (lv_at hl 1 rfl) ?_
  obtain ⟨o1, ho1, h⟩ := g_bd h
  refine g_callV (n := 1) (As := [.int a1]) (rest := []) C w (m_X8_noPlayer sth kth ho1) (cl_8).1 sth kth (by decide) ml_X8_306 iy_X8_noPlayer sy_X8_noPlayer in_X8 cy_X8_noPlayer ⟨rfl, by decide +kernel, by decide +kernel, by decide +kernel⟩ rfl ⟨Nat.le_of_ble_eq_true rfl, Nat.le_of_ble_eq_true rfl⟩ rfl (Nat.le_of_ble_eq_true rfl) hl.1 ⟨Nat.le_of_ble_eq_true rfl, Nat.le_of_ble_eq_true rfl⟩ dX8_player_2 (fun H locs w => ?_)
  refine lv_if_ne (tgt := 31) C.1 C.2.1 dX8_player_5 (by decide) (fun hc => ?_) (fun hc => ?_)
  · have h := (if_neg hc).symm.trans h
    refine lv_iconst (v := 0) C.1 C.2.1 dX8_player_31 (by decide) ?_
    exact g_iretB C w hr dX8_player_32 h
  · have h := (if_pos hc).symm.trans h
    refine lv_aload_n C.1 C.2.1 dX8_player_8 rfl (lv_at hl 0 rfl) ?_
    refine lv_iload_n C.1 C.2.1 dX8_player_9 rfl (lv_at hl 2 rfl) ?_
    refine lv_iconst (v := 0) C.1 C.2.1 dX8_player_10 (by decide) ?_
    refine lv_bipush (v := 16) C.1 C.2.1 dX8_player_11 (by decide) ?_
    obtain ⟨o2, ho2, h⟩ := g_bd h
    refine g_callS (n := 3) (As := [.int a2, .int 0, .int 16]) (rest := [.ref (B + th)]) C w (m_X8_within ho2) ml_X8_95 iy_X8_within in_X8 cy_X8_within ⟨by decide +kernel, by decide +kernel, by decide +kernel⟩ rfl ⟨Nat.le_of_ble_eq_true rfl, Nat.le_of_ble_eq_true rfl⟩ rfl (Nat.le_of_ble_eq_true rfl) hl.1 ⟨Nat.le_of_ble_eq_true rfl, Nat.le_of_ble_eq_true rfl⟩ dX8_player_13 (fun H locs w => ?_)
    refine lv_if_ne (tgt := 23) C.1 C.2.1 dX8_player_16 (by decide) (fun hc => ?_) (fun hc => ?_)
    · have h := (if_neg hc).symm.trans h
      refine lv_iconst (v := 0) C.1 C.2.1 dX8_player_23 (by decide) ?_
      exact B_24 _ _ _ _ _ h w (show lv_has ls 3 [(0, .ref (B + th)), (1, .int a1), (2, .int a2)] from lv_sub hl [0, 1, 2] rfl)
    · have h := (if_pos hc).symm.trans h
      refine lv_iconst (v := 1) C.1 C.2.1 dX8_player_19 (by decide) ?_
      refine lv_goto (tgt := 24) C.1 C.2.1 dX8_player_20 (by decide) ?_
      exact B_24 _ _ _ _ _ h w (show lv_has ls 3 [(0, .ref (B + th)), (1, .int a1), (2, .int a2)] from lv_sub hl [0, 1, 2] rfl)

set_option maxHeartbeats 4000000 in
set_option maxRecDepth 100000 in
theorem m_X8_loaded {l : Launch} {D : va_G} {cA : Nat → ClassId} {B : Nat} {S : Nat → Prop} {σ : GS} {th : Nat} {a1 : Int32} {a2 : Int32} {a3 : Int32} {o : GS × Int32} (sth : S th) (kth : kdG th = 8) (h0 : F_X8_loaded σ th a1 a2 a3 = some o) : MF l yX8_loaded cX8_loaded 5 (some .int) 3 65 D cA B S [.ref (B + th), .int a1, .int a2, .int a3] σ o.1 (some (.int o.2)) := by
  refine MF.of (by decide +kernel) (Nat.le_of_ble_eq_true rfl) ?_
  intro p e s m args below meth c C hr w ls hl
  have hl : lv_has ls 5 [(0, .ref (B + th)), (1, .int a1), (2, .int a2), (3, .int a3)] := hl
  have B_23 : ∀ (σ : GS) (u0 : Int32) (H : Heap) (locs : List Loc) (ls : Array Slot), J_X8_loaded_23 th a1 a2 a3 σ u0 = some o → WS D cA B S σ s H locs → lv_has ls 5 [(0, .ref (B + th)), (1, .int a1), (2, .int a2), (3, .int a3)] → W p l e (rmF 3 65) s m args below meth c H locs 0 0 (MQ below (QF D cA B S o.1 (some (.int o.2))) args s 0 0 (AB B S)) (F0 m 23 ls [.int u0, .ref (B + th)]) := by
    intro σ u0 H locs ls h  w hl
    unfold J_X8_loaded_23 at h
    refine lv_iconst (v := 2) C.1 C.2.1 dX8_loaded_23 (by decide) ?_
    obtain ⟨o3, ho3, h⟩ := g_bd h
    refine g_callV (n := 2) (As := [.int u0, .int 2]) (rest := []) C w (m_X8_throwsIf sth kth ho3) (cl_8).1 sth kth (by decide) ml_X8_194 iy_X8_throwsIf sy_X8_throwsIf in_X8 cy_X8_throwsIf ⟨rfl, by decide +kernel, by decide +kernel, by decide +kernel⟩ rfl ⟨Nat.le_of_ble_eq_true rfl, Nat.le_of_ble_eq_true rfl⟩ rfl (Nat.le_of_ble_eq_true rfl) hl.1 ⟨Nat.le_of_ble_eq_true rfl, Nat.le_of_ble_eq_true rfl⟩ dX8_loaded_24 (fun H locs w => ?_)
    refine lv_if_eq (tgt := 32) C.1 C.2.1 dX8_loaded_27 (by decide) (fun hc => ?_) (fun hc => ?_)
    · have h := (if_pos hc).symm.trans h
      refine lv_iload_n C.1 C.2.1 dX8_loaded_32 rfl (lv_at hl 2 rfl) ?_
      refine lv_iconst (v := 0) C.1 C.2.1 dX8_loaded_33 (by decide) ?_
      refine lv_aload_n C.1 C.2.1 dX8_loaded_34 rfl (lv_at hl 0 rfl) ?_
      refine lv_iload_n C.1 C.2.1 dX8_loaded_35 rfl (lv_at hl 1 rfl) ?_
      refine lv_iconst (v := 2) C.1 C.2.1 dX8_loaded_36 (by decide) ?_
      obtain ⟨o4, ho4, h⟩ := g_bd h
      refine g_callV (n := 2) (As := [.int a1, .int 2]) (rest := [.int 0, .int a2]) C w (m_X8_of sth kth ho4) (cl_8).1 sth kth (by decide) ml_X8_217 iy_X8_of sy_X8_of in_X8 cy_X8_of ⟨rfl, by decide +kernel, by decide +kernel, by decide +kernel⟩ rfl ⟨Nat.le_of_ble_eq_true rfl, Nat.le_of_ble_eq_true rfl⟩ rfl (Nat.le_of_ble_eq_true rfl) hl.1 ⟨Nat.le_of_ble_eq_true rfl, Nat.le_of_ble_eq_true rfl⟩ dX8_loaded_37 (fun H locs w => ?_)
      refine lv_iconst (v := 1) C.1 C.2.1 dX8_loaded_40 (by decide) ?_
      refine lv_isub C.1 C.2.1 dX8_loaded_41 ?_
      obtain ⟨o5, ho5, h⟩ := g_bd h
      refine g_callS (n := 3) (As := [.int a2, .int 0, .int (o4 - 1)]) (rest := []) C w (m_X8_within ho5) ml_X8_95 iy_X8_within in_X8 cy_X8_within ⟨by decide +kernel, by decide +kernel, by decide +kernel⟩ rfl ⟨Nat.le_of_ble_eq_true rfl, Nat.le_of_ble_eq_true rfl⟩ rfl (Nat.le_of_ble_eq_true rfl) hl.1 ⟨Nat.le_of_ble_eq_true rfl, Nat.le_of_ble_eq_true rfl⟩ dX8_loaded_42 (fun H locs w => ?_)
      refine lv_if_ne (tgt := 50) C.1 C.2.1 dX8_loaded_45 (by decide) (fun hc => ?_) (fun hc => ?_)
      · have h := (if_neg hc).symm.trans h
        refine lv_aload_n C.1 C.2.1 dX8_loaded_50 rfl (lv_at hl 0 rfl) ?_
        refine lv_iload_n C.1 C.2.1 dX8_loaded_51 rfl (lv_at hl 1 rfl) ?_
        refine lv_bipush (v := 15) C.1 C.2.1 dX8_loaded_52 (by decide) ?_
        refine lv_iconst (v := 3) C.1 C.2.1 dX8_loaded_54 (by decide) ?_
        refine lv_iload_n C.1 C.2.1 dX8_loaded_55 rfl (lv_at hl 2 rfl) ?_
        refine lv_imul C.1 C.2.1 dX8_loaded_56 ?_
        refine lv_iadd C.1 C.2.1 dX8_loaded_57 ?_
        obtain ⟨o6, ho6, h⟩ := g_bd h
        refine g_callV (n := 2) (As := [.int a1, .int (15 + (3 * a2))]) (rest := []) C w (m_X8_of sth kth ho6) (cl_8).1 sth kth (by decide) ml_X8_217 iy_X8_of sy_X8_of in_X8 cy_X8_of ⟨rfl, by decide +kernel, by decide +kernel, by decide +kernel⟩ rfl ⟨Nat.le_of_ble_eq_true rfl, Nat.le_of_ble_eq_true rfl⟩ rfl (Nat.le_of_ble_eq_true rfl) hl.1 ⟨Nat.le_of_ble_eq_true rfl, Nat.le_of_ble_eq_true rfl⟩ dX8_loaded_58 (fun H locs w => ?_)
        refine lv_istore (lv' := [(4, .int o6), (0, .ref (B + th)), (1, .int a1), (2, .int a2), (3, .int a3)]) C.1 C.2.1 dX8_loaded_61 hl (by decide) rfl (fun ls hl => ?_)
        refine lv_iload_n C.1 C.2.1 dX8_loaded_63 rfl (lv_at hl 4 rfl) ?_
        refine lv_if_ne (tgt := 72) C.1 C.2.1 dX8_loaded_64 (by decide) (fun hc => ?_) (fun hc => ?_)
        · have h := (if_neg hc).symm.trans h
          refine lv_iload_n C.1 C.2.1 dX8_loaded_72 rfl (lv_at hl 4 rfl) ?_
          refine lv_iconst (v := 1) C.1 C.2.1 dX8_loaded_73 (by decide) ?_
          refine lv_icmp_ne (tgt := 88) C.1 C.2.1 dX8_loaded_74 (by decide) (fun hc => ?_) (fun hc => ?_)
          · have h := (if_neg hc).symm.trans h
            refine lv_aload_n C.1 C.2.1 dX8_loaded_88 rfl (lv_at hl 1 rfl) ?_
            refine lv_iload_n C.1 C.2.1 dX8_loaded_89 rfl (lv_at hl 2 rfl) ?_
            refine lv_bipush (v := 15) C.1 C.2.1 dX8_loaded_90 (by decide) ?_
            refine lv_iconst (v := 3) C.1 C.2.1 dX8_loaded_92 (by decide) ?_
            refine lv_iload_n C.1 C.2.1 dX8_loaded_93 rfl (lv_at hl 3 rfl) ?_
            refine lv_imul C.1 C.2.1 dX8_loaded_94 ?_
            refine lv_iadd C.1 C.2.1 dX8_loaded_95 ?_
            refine lv_iload_n C.1 C.2.1 dX8_loaded_96 rfl (lv_at hl 4 rfl) ?_
            refine lv_iadd C.1 C.2.1 dX8_loaded_97 ?_
            refine lv_iconst (v := 1) C.1 C.2.1 dX8_loaded_98 (by decide) ?_
            refine lv_isub C.1 C.2.1 dX8_loaded_99 ?_
            obtain ⟨o7, ho7, h⟩ := g_bd h
            refine g_callV (n := 2) (As := [.int a1, .int (((15 + (3 * a2)) + a3) - 1)]) (rest := []) C w (m_X8_of sth kth ho7) (cl_8).1 sth kth (by decide) ml_X8_217 iy_X8_of sy_X8_of in_X8 cy_X8_of ⟨rfl, by decide +kernel, by decide +kernel, by decide +kernel⟩ rfl ⟨Nat.le_of_ble_eq_true rfl, Nat.le_of_ble_eq_true rfl⟩ rfl (Nat.le_of_ble_eq_true rfl) hl.1 ⟨Nat.le_of_ble_eq_true rfl, Nat.le_of_ble_eq_true rfl⟩ dX8_loaded_100 (fun H locs w => ?_)
            exact g_iretB C w hr dX8_loaded_103 h
          · have h := (if_pos hc).symm.trans h
            refine lv_aload_n C.1 C.2.1 dX8_loaded_77 rfl (lv_at hl 1 rfl) ?_
            refine lv_iload_n C.1 C.2.1 dX8_loaded_78 rfl (lv_at hl 2 rfl) ?_
            refine lv_iload_n C.1 C.2.1 dX8_loaded_79 rfl (lv_at hl 3 rfl) ?_
            refine lv_iload C.1 C.2.1 dX8_loaded_80 (lv_at hl 0 rfl) ?_
            obtain ⟨o8, ho8, h⟩ := g_bd h
            refine g_callV (n := 3) (As := [.int a1, .int a2, .int o6]) (rest := []) C w (m_X8_sizeAt sth kth ho8) (cl_8).1 sth kth (by decide) ml_X8_223 iy_X8_sizeAt sy_X8_sizeAt in_X8 cy_X8_sizeAt ⟨rfl, by decide +kernel, by decide +kernel, by decide +kernel⟩ rfl ⟨Nat.le_of_ble_eq_true rfl, Nat.le_of_ble_eq_true rfl⟩ rfl (Nat.le_of_ble_eq_true rfl) hl.1 ⟨Nat.le_of_ble_eq_true rfl, Nat.le_of_ble_eq_true rfl⟩ dX8_loaded_82 (fun H locs w => ?_)
            refine lv_goto (tgt := 103) C.1 C.2.1 dX8_loaded_85 (by decide) ?_
            exact g_iretB C w hr dX8_loaded_103 h
        · have h := (if_pos hc).symm.trans h
          refine lv_iload C.1 C.2.1 dX8_loaded_67 (lv_at hl 0 rfl) ?_
          refine lv_goto (tgt := 103) C.1 C.2.1 dX8_loaded_69 (by decide) ?_
          exact g_iretB C w hr dX8_loaded_103 h
      · have h := (if_pos hc).symm.trans h
        refine lv_iconst (v := (-1)) C.1 C.2.1 dX8_loaded_48 (by decide) ?_
        exact g_iretB C w hr dX8_loaded_49 h
    · have h := (if_neg hc).symm.trans h
      refine lv_iconst (v := 0) C.1 C.2.1 dX8_loaded_30 (by decide) ?_
      exact g_iretB C w hr dX8_loaded_31 h
  have h := h0
  unfold F_X8_loaded at h
  refine lv_aload_n C.1 C.2.1 dX8_loaded_0 rfl (lv_at hl 0 rfl) ?_
  refine lv_iload_n C.1 C.2.1 dX8_loaded_1 rfl (lv_at hl 1 rfl) ?_
  obtain ⟨o1, ho1, h⟩ := g_bd h
  refine g_callV (n := 1) (As := [.int a1]) (rest := []) C w (m_X8_noPlayer sth kth ho1) (cl_8).1 sth kth (by decide) ml_X8_306 iy_X8_noPlayer sy_X8_noPlayer in_X8 cy_X8_noPlayer ⟨rfl, by decide +kernel, by decide +kernel, by decide +kernel⟩ rfl ⟨Nat.le_of_ble_eq_true rfl, Nat.le_of_ble_eq_true rfl⟩ rfl (Nat.le_of_ble_eq_true rfl) hl.1 ⟨Nat.le_of_ble_eq_true rfl, Nat.le_of_ble_eq_true rfl⟩ dX8_loaded_2 (fun H locs w => ?_)
  refine lv_if_ne (tgt := 30) C.1 C.2.1 dX8_loaded_5 (by decide) (fun hc => ?_) (fun hc => ?_)
  · have h := (if_neg hc).symm.trans h
    refine lv_iconst (v := 0) C.1 C.2.1 dX8_loaded_30 (by decide) ?_
    exact g_iretB C w hr dX8_loaded_31 h
  · have h := (if_pos hc).symm.trans h
    refine lv_aload_n C.1 C.2.1 dX8_loaded_8 rfl (lv_at hl 0 rfl) ?_
    refine lv_iload_n C.1 C.2.1 dX8_loaded_9 rfl (lv_at hl 3 rfl) ?_
    refine lv_iconst (v := 0) C.1 C.2.1 dX8_loaded_10 (by decide) ?_
    refine lv_iconst (v := 3) C.1 C.2.1 dX8_loaded_11 (by decide) ?_
    obtain ⟨o2, ho2, h⟩ := g_bd h
    refine g_callS (n := 3) (As := [.int a3, .int 0, .int 3]) (rest := [.ref (B + th)]) C w (m_X8_within ho2) ml_X8_95 iy_X8_within in_X8 cy_X8_within ⟨by decide +kernel, by decide +kernel, by decide +kernel⟩ rfl ⟨Nat.le_of_ble_eq_true rfl, Nat.le_of_ble_eq_true rfl⟩ rfl (Nat.le_of_ble_eq_true rfl) hl.1 ⟨Nat.le_of_ble_eq_true rfl, Nat.le_of_ble_eq_true rfl⟩ dX8_loaded_12 (fun H locs w => ?_)
    refine lv_if_ne (tgt := 22) C.1 C.2.1 dX8_loaded_15 (by decide) (fun hc => ?_) (fun hc => ?_)
    · have h := (if_neg hc).symm.trans h
      refine lv_iconst (v := 0) C.1 C.2.1 dX8_loaded_22 (by decide) ?_
      exact B_23 _ _ _ _ _ h w (show lv_has ls 5 [(0, .ref (B + th)), (1, .int a1), (2, .int a2), (3, .int a3)] from lv_sub hl [0, 1, 2, 3] rfl)
    · have h := (if_pos hc).symm.trans h
      refine lv_iconst (v := 1) C.1 C.2.1 dX8_loaded_18 (by decide) ?_
      refine lv_goto (tgt := 23) C.1 C.2.1 dX8_loaded_19 (by decide) ?_
      exact B_23 _ _ _ _ _ h w (show lv_has ls 5 [(0, .ref (B + th)), (1, .int a1), (2, .int a2), (3, .int a3)] from lv_sub hl [0, 1, 2, 3] rfl)

set_option maxHeartbeats 4000000 in
set_option maxRecDepth 100000 in
theorem m_X8_sizeOf {l : Launch} {D : va_G} {cA : Nat → ClassId} {B : Nat} {S : Nat → Prop} {σ : GS} {th : Nat} {a1 : Int32} {a2 : Int32} {a3 : Int32} {o : GS × Int32} (sth : S th) (kth : kdG th = 8) (h0 : F_X8_sizeOf σ th a1 a2 a3 = some o) : MF l yX8_sizeOf cX8_sizeOf 4 (some .int) 3 65 D cA B S [.ref (B + th), .int a1, .int a2, .int a3] σ o.1 (some (.int o.2)) := by
  refine MF.of (by decide +kernel) (Nat.le_of_ble_eq_true rfl) ?_
  intro p e s m args below meth c C hr w ls hl
  have hl : lv_has ls 4 [(0, .ref (B + th)), (1, .int a1), (2, .int a2), (3, .int a3)] := hl
  have B_46 : ∀ (σ : GS) (u0 : Int32) (H : Heap) (locs : List Loc) (ls : Array Slot), J_X8_sizeOf_46 th a1 a2 a3 σ u0 = some o → WS D cA B S σ s H locs → lv_has ls 4 [(0, .ref (B + th)), (1, .int a1), (2, .int a2), (3, .int a3)] → W p l e (rmF 3 65) s m args below meth c H locs 0 0 (MQ below (QF D cA B S o.1 (some (.int o.2))) args s 0 0 (AB B S)) (F0 m 46 ls [.int u0, .ref (B + th)]) := by
    intro σ u0 H locs ls h  w hl
    unfold J_X8_sizeOf_46 at h
    refine lv_iconst (v := 2) C.1 C.2.1 dX8_sizeOf_46 (by decide) ?_
    obtain ⟨o6, ho6, h⟩ := g_bd h
    refine g_callV (n := 2) (As := [.int u0, .int 2]) (rest := []) C w (m_X8_throwsIf sth kth ho6) (cl_8).1 sth kth (by decide) ml_X8_194 iy_X8_throwsIf sy_X8_throwsIf in_X8 cy_X8_throwsIf ⟨rfl, by decide +kernel, by decide +kernel, by decide +kernel⟩ rfl ⟨Nat.le_of_ble_eq_true rfl, Nat.le_of_ble_eq_true rfl⟩ rfl (Nat.le_of_ble_eq_true rfl) hl.1 ⟨Nat.le_of_ble_eq_true rfl, Nat.le_of_ble_eq_true rfl⟩ dX8_sizeOf_47 (fun H locs w => ?_)
    refine lv_if_eq (tgt := 55) C.1 C.2.1 dX8_sizeOf_50 (by decide) (fun hc => ?_) (fun hc => ?_)
    · have h := (if_pos hc).symm.trans h
      refine lv_aload_n C.1 C.2.1 dX8_sizeOf_55 rfl (lv_at hl 0 rfl) ?_
      refine lv_iload_n C.1 C.2.1 dX8_sizeOf_56 rfl (lv_at hl 1 rfl) ?_
      refine lv_iload_n C.1 C.2.1 dX8_sizeOf_57 rfl (lv_at hl 2 rfl) ?_
      refine lv_iload_n C.1 C.2.1 dX8_sizeOf_58 rfl (lv_at hl 3 rfl) ?_
      obtain ⟨o7, ho7, h⟩ := g_bd h
      refine g_callV (n := 3) (As := [.int a1, .int a2, .int a3]) (rest := []) C w (m_X8_sizeAt sth kth ho7) (cl_8).1 sth kth (by decide) ml_X8_223 iy_X8_sizeAt sy_X8_sizeAt in_X8 cy_X8_sizeAt ⟨rfl, by decide +kernel, by decide +kernel, by decide +kernel⟩ rfl ⟨Nat.le_of_ble_eq_true rfl, Nat.le_of_ble_eq_true rfl⟩ rfl (Nat.le_of_ble_eq_true rfl) hl.1 ⟨Nat.le_of_ble_eq_true rfl, Nat.le_of_ble_eq_true rfl⟩ dX8_sizeOf_59 (fun H locs w => ?_)
      exact g_iretB C w hr dX8_sizeOf_62 h
    · have h := (if_neg hc).symm.trans h
      refine lv_iconst (v := 0) C.1 C.2.1 dX8_sizeOf_53 (by decide) ?_
      exact g_iretB C w hr dX8_sizeOf_54 h
  have B_41 : ∀ (σ : GS) (H : Heap) (locs : List Loc) (ls : Array Slot), J_X8_sizeOf_41 th a1 a2 a3 σ = some o → WS D cA B S σ s H locs → lv_has ls 4 [(0, .ref (B + th)), (1, .int a1), (2, .int a2), (3, .int a3)] → W p l e (rmF 3 65) s m args below meth c H locs 0 0 (MQ below (QF D cA B S o.1 (some (.int o.2))) args s 0 0 (AB B S)) (F0 m 41 ls [.ref (B + th)]) := by
    intro σ H locs ls h  w hl
    unfold J_X8_sizeOf_41 at h
    refine lv_iconst (v := 1) C.1 C.2.1 dX8_sizeOf_41 (by decide) ?_
    refine lv_goto (tgt := 46) C.1 C.2.1 dX8_sizeOf_42 (by decide) ?_
    exact B_46 _ _ _ _ _ h w (show lv_has ls 4 [(0, .ref (B + th)), (1, .int a1), (2, .int a2), (3, .int a3)] from lv_sub hl [0, 1, 2, 3] rfl)
  have h := h0
  unfold F_X8_sizeOf at h
  refine lv_aload_n C.1 C.2.1 dX8_sizeOf_0 rfl (lv_at hl 0 rfl) ?_
  refine lv_iload_n C.1 C.2.1 dX8_sizeOf_1 rfl (lv_at hl 1 rfl) ?_
  obtain ⟨o1, ho1, h⟩ := g_bd h
  refine g_callV (n := 1) (As := [.int a1]) (rest := []) C w (m_X8_noPlayer sth kth ho1) (cl_8).1 sth kth (by decide) ml_X8_306 iy_X8_noPlayer sy_X8_noPlayer in_X8 cy_X8_noPlayer ⟨rfl, by decide +kernel, by decide +kernel, by decide +kernel⟩ rfl ⟨Nat.le_of_ble_eq_true rfl, Nat.le_of_ble_eq_true rfl⟩ rfl (Nat.le_of_ble_eq_true rfl) hl.1 ⟨Nat.le_of_ble_eq_true rfl, Nat.le_of_ble_eq_true rfl⟩ dX8_sizeOf_2 (fun H locs w => ?_)
  refine lv_if_ne (tgt := 53) C.1 C.2.1 dX8_sizeOf_5 (by decide) (fun hc => ?_) (fun hc => ?_)
  · have h := (if_neg hc).symm.trans h
    refine lv_iconst (v := 0) C.1 C.2.1 dX8_sizeOf_53 (by decide) ?_
    exact g_iretB C w hr dX8_sizeOf_54 h
  · have h := (if_pos hc).symm.trans h
    refine lv_aload_n C.1 C.2.1 dX8_sizeOf_8 rfl (lv_at hl 0 rfl) ?_
    refine lv_iload_n C.1 C.2.1 dX8_sizeOf_9 rfl (lv_at hl 2 rfl) ?_
    refine lv_iconst (v := 0) C.1 C.2.1 dX8_sizeOf_10 (by decide) ?_
    refine lv_aload_n C.1 C.2.1 dX8_sizeOf_11 rfl (lv_at hl 0 rfl) ?_
    refine lv_iload_n C.1 C.2.1 dX8_sizeOf_12 rfl (lv_at hl 1 rfl) ?_
    refine lv_iconst (v := 0) C.1 C.2.1 dX8_sizeOf_13 (by decide) ?_
    obtain ⟨o2, ho2, h⟩ := g_bd h
    refine g_callV (n := 2) (As := [.int a1, .int 0]) (rest := [.int 0, .int a2, .ref (B + th)]) C w (m_X8_toldOf sth kth ho2) (cl_8).1 sth kth (by decide) ml_X8_213 iy_X8_toldOf sy_X8_toldOf in_X8 cy_X8_toldOf ⟨rfl, by decide +kernel, by decide +kernel, by decide +kernel⟩ rfl ⟨Nat.le_of_ble_eq_true rfl, Nat.le_of_ble_eq_true rfl⟩ rfl (Nat.le_of_ble_eq_true rfl) hl.1 ⟨Nat.le_of_ble_eq_true rfl, Nat.le_of_ble_eq_true rfl⟩ dX8_sizeOf_14 (fun H locs w => ?_)
    refine lv_iconst (v := 1) C.1 C.2.1 dX8_sizeOf_17 (by decide) ?_
    refine lv_isub C.1 C.2.1 dX8_sizeOf_18 ?_
    obtain ⟨o3, ho3, h⟩ := g_bd h
    refine g_callS (n := 3) (As := [.int a2, .int 0, .int (o2 - 1)]) (rest := [.ref (B + th)]) C w (m_X8_within ho3) ml_X8_95 iy_X8_within in_X8 cy_X8_within ⟨by decide +kernel, by decide +kernel, by decide +kernel⟩ rfl ⟨Nat.le_of_ble_eq_true rfl, Nat.le_of_ble_eq_true rfl⟩ rfl (Nat.le_of_ble_eq_true rfl) hl.1 ⟨Nat.le_of_ble_eq_true rfl, Nat.le_of_ble_eq_true rfl⟩ dX8_sizeOf_19 (fun H locs w => ?_)
    refine lv_if_eq (tgt := 41) C.1 C.2.1 dX8_sizeOf_22 (by decide) (fun hc => ?_) (fun hc => ?_)
    · have h := (if_pos hc).symm.trans h
      exact B_41 _ _ _ _ h w (show lv_has ls 4 [(0, .ref (B + th)), (1, .int a1), (2, .int a2), (3, .int a3)] from lv_sub hl [0, 1, 2, 3] rfl)
    · have h := (if_neg hc).symm.trans h
      refine lv_iload_n C.1 C.2.1 dX8_sizeOf_25 rfl (lv_at hl 3 rfl) ?_
      refine lv_iconst (v := 0) C.1 C.2.1 dX8_sizeOf_26 (by decide) ?_
      refine lv_aload_n C.1 C.2.1 dX8_sizeOf_27 rfl (lv_at hl 0 rfl) ?_
      refine lv_iload_n C.1 C.2.1 dX8_sizeOf_28 rfl (lv_at hl 1 rfl) ?_
      refine lv_iconst (v := 1) C.1 C.2.1 dX8_sizeOf_29 (by decide) ?_
      obtain ⟨o4, ho4, h⟩ := g_bd h
      refine g_callV (n := 2) (As := [.int a1, .int 1]) (rest := [.int 0, .int a3, .ref (B + th)]) C w (m_X8_toldOf sth kth ho4) (cl_8).1 sth kth (by decide) ml_X8_213 iy_X8_toldOf sy_X8_toldOf in_X8 cy_X8_toldOf ⟨rfl, by decide +kernel, by decide +kernel, by decide +kernel⟩ rfl ⟨Nat.le_of_ble_eq_true rfl, Nat.le_of_ble_eq_true rfl⟩ rfl (Nat.le_of_ble_eq_true rfl) hl.1 ⟨Nat.le_of_ble_eq_true rfl, Nat.le_of_ble_eq_true rfl⟩ dX8_sizeOf_30 (fun H locs w => ?_)
      refine lv_iconst (v := 1) C.1 C.2.1 dX8_sizeOf_33 (by decide) ?_
      refine lv_isub C.1 C.2.1 dX8_sizeOf_34 ?_
      obtain ⟨o5, ho5, h⟩ := g_bd h
      refine g_callS (n := 3) (As := [.int a3, .int 0, .int (o4 - 1)]) (rest := [.ref (B + th)]) C w (m_X8_within ho5) ml_X8_95 iy_X8_within in_X8 cy_X8_within ⟨by decide +kernel, by decide +kernel, by decide +kernel⟩ rfl ⟨Nat.le_of_ble_eq_true rfl, Nat.le_of_ble_eq_true rfl⟩ rfl (Nat.le_of_ble_eq_true rfl) hl.1 ⟨Nat.le_of_ble_eq_true rfl, Nat.le_of_ble_eq_true rfl⟩ dX8_sizeOf_35 (fun H locs w => ?_)
      refine lv_if_ne (tgt := 45) C.1 C.2.1 dX8_sizeOf_38 (by decide) (fun hc => ?_) (fun hc => ?_)
      · have h := (if_neg hc).symm.trans h
        refine lv_iconst (v := 0) C.1 C.2.1 dX8_sizeOf_45 (by decide) ?_
        exact B_46 _ _ _ _ _ h w (show lv_has ls 4 [(0, .ref (B + th)), (1, .int a1), (2, .int a2), (3, .int a3)] from lv_sub hl [0, 1, 2, 3] rfl)
      · have h := (if_pos hc).symm.trans h
        exact B_41 _ _ _ _ h w (show lv_has ls 4 [(0, .ref (B + th)), (1, .int a1), (2, .int a2), (3, .int a3)] from lv_sub hl [0, 1, 2, 3] rfl)

set_option maxHeartbeats 4000000 in
set_option maxRecDepth 100000 in
theorem m_X8_wouldChoose {l : Launch} {D : va_G} {cA : Nat → ClassId} {B : Nat} {S : Nat → Prop} {σ : GS} {th : Nat} {a1 : Int32} {o : GS × Int32} (sth : S th) (kth : kdG th = 8) (h0 : F_X8_wouldChoose σ th a1 = some o) : MF l yX8_wouldChoose cX8_wouldChoose 2 (some .int) 4 92 D cA B S [.ref (B + th), .int a1] σ o.1 (some (.int o.2)) := by
  refine MF.of (by decide +kernel) (Nat.le_of_ble_eq_true rfl) ?_
  intro p e s m args below meth c C hr w ls hl
  have hl : lv_has ls 2 [(0, .ref (B + th)), (1, .int a1)] := hl
  have h := h0
  unfold F_X8_wouldChoose at h
  refine lv_aload_n C.1 C.2.1 dX8_wouldChoose_0 rfl (lv_at hl 0 rfl) ?_
  refine lv_iload_n C.1 C.2.1 dX8_wouldChoose_1 rfl (lv_at hl 1 rfl) ?_
  obtain ⟨o1, ho1, h⟩ := g_bd h
  refine g_callV (n := 1) (As := [.int a1]) (rest := []) C w (m_X8_noPlayer sth kth ho1) (cl_8).1 sth kth (by decide) ml_X8_306 iy_X8_noPlayer sy_X8_noPlayer in_X8 cy_X8_noPlayer ⟨rfl, by decide +kernel, by decide +kernel, by decide +kernel⟩ rfl ⟨Nat.le_of_ble_eq_true rfl, Nat.le_of_ble_eq_true rfl⟩ rfl (Nat.le_of_ble_eq_true rfl) hl.1 ⟨Nat.le_of_ble_eq_true rfl, Nat.le_of_ble_eq_true rfl⟩ dX8_wouldChoose_2 (fun H locs w => ?_)
  refine lv_if_eq (tgt := 12) C.1 C.2.1 dX8_wouldChoose_5 (by decide) (fun hc => ?_) (fun hc => ?_)
  · have h := (if_pos hc).symm.trans h
    refine lv_aload_n C.1 C.2.1 dX8_wouldChoose_12 rfl (lv_at hl 0 rfl) ?_
    refine lv_iload_n C.1 C.2.1 dX8_wouldChoose_13 rfl (lv_at hl 1 rfl) ?_
    obtain ⟨o2, ho2, h⟩ := g_bd h
    refine g_callV (n := 1) (As := [.int a1]) (rest := []) C w (m_X8_hasNone sth kth ho2) (cl_8).1 sth kth (by decide) ml_X8_291 iy_X8_hasNone sy_X8_hasNone in_X8 cy_X8_hasNone ⟨rfl, by decide +kernel, by decide +kernel, by decide +kernel⟩ rfl ⟨Nat.le_of_ble_eq_true rfl, Nat.le_of_ble_eq_true rfl⟩ rfl (Nat.le_of_ble_eq_true rfl) hl.1 ⟨Nat.le_of_ble_eq_true rfl, Nat.le_of_ble_eq_true rfl⟩ dX8_wouldChoose_14 (fun H locs w => ?_)
    refine lv_if_eq (tgt := 24) C.1 C.2.1 dX8_wouldChoose_17 (by decide) (fun hc => ?_) (fun hc => ?_)
    · have h := (if_pos hc).symm.trans h
      refine lv_aload_n C.1 C.2.1 dX8_wouldChoose_24 rfl (lv_at hl 0 rfl) ?_
      refine lv_iload_n C.1 C.2.1 dX8_wouldChoose_25 rfl (lv_at hl 1 rfl) ?_
      obtain ⟨o3, ho3, h⟩ := g_bd h
      refine g_callV (n := 1) (As := [.int a1]) (rest := []) C w (m_X8_byRule sth kth ho3) (cl_8).1 sth kth (by decide) ml_X8_239 iy_X8_byRule sy_X8_byRule in_X8 cy_X8_byRule ⟨rfl, by decide +kernel, by decide +kernel, by decide +kernel⟩ rfl ⟨Nat.le_of_ble_eq_true rfl, Nat.le_of_ble_eq_true rfl⟩ rfl (Nat.le_of_ble_eq_true rfl) hl.1 ⟨Nat.le_of_ble_eq_true rfl, Nat.le_of_ble_eq_true rfl⟩ dX8_wouldChoose_26 (fun H locs w => ?_)
      exact g_iretB C w hr dX8_wouldChoose_29 h
    · have h := (if_neg hc).symm.trans h
      refine lv_iconst (v := (-1)) C.1 C.2.1 dX8_wouldChoose_20 (by decide) ?_
      refine lv_goto (tgt := 29) C.1 C.2.1 dX8_wouldChoose_21 (by decide) ?_
      exact g_iretB C w hr dX8_wouldChoose_29 h
  · have h := (if_neg hc).symm.trans h
    refine lv_iconst (v := 0) C.1 C.2.1 dX8_wouldChoose_8 (by decide) ?_
    refine lv_goto (tgt := 29) C.1 C.2.1 dX8_wouldChoose_9 (by decide) ?_
    exact g_iretB C w hr dX8_wouldChoose_29 h

set_option maxHeartbeats 4000000 in
set_option maxRecDepth 100000 in
theorem m_X8_fairness {l : Launch} {D : va_G} {cA : Nat → ClassId} {B : Nat} {S : Nat → Prop} {σ : GS} {th : Nat} {o : GS × UInt64} (sth : S th) (kth : kdG th = 8) (h0 : F_X8_fairness σ th = some o) : MF l yX8_fairness cX8_fairness 8 (some .double) 1 22 D cA B S [.ref (B + th)] σ o.1 (some (.double o.2)) := by
  refine MF.of (by decide +kernel) (Nat.le_of_ble_eq_true rfl) ?_
  intro p e s m args below meth c C hr w ls hl
  have hl : lv_has ls 8 [(0, .ref (B + th))] := hl
  have B_12 : ∀ (n12 : Nat) (σ : GS) (v1 : UInt64) (v3 : UInt64) (v5 : Int32) (H : Heap) (locs : List Loc) (ls : Array Slot), L_X8_fairness_12 th n12 σ v1 v3 v5 = some o → WS D cA B S σ s H locs → lv_has ls 8 [(0, .ref (B + th)), (1, .double v1), (3, .double v3), (5, .int v5)] → W p l e (rmF 1 22) s m args below meth c H locs 0 0 (MQ below (QF D cA B S o.1 (some (.double o.2))) args s 0 0 (AB B S)) (F0 m 12 ls []) := by
    intro n12
    induction n12 with
    | zero => intro σ v1 v3 v5 H locs ls h; exact nomatch (show (none : Option (GS × UInt64)) = some o from h)
    | succ n12 ih12 =>
      intro σ v1 v3 v5 H locs ls h  w hl
      unfold L_X8_fairness_12 at h
      refine lv_iload C.1 C.2.1 dX8_fairness_12 (lv_at hl 3 rfl) ?_
      refine lv_aload_n C.1 C.2.1 dX8_fairness_14 rfl (lv_at hl 0 rfl) ?_
      refine g_getR C w fl_X8_7 sth kth (by decide) kt_8_1 (fun _ _ _ => rfl) dX8_fairness_15 (fun s2 k2 => ?_)
      refine lv_iconst (v := 4) C.1 C.2.1 dX8_fairness_18 (by decide) ?_
      obtain ⟨hb, h⟩ := g_ob h
      refine g_iald C w s2 k2 hb dX8_fairness_19 ?_
      refine lv_icmp_ge (tgt := 63) C.1 C.2.1 dX8_fairness_20 (by decide) (fun hc => ?_) (fun hc => ?_)
      · have h := (if_pos hc).symm.trans h
        refine lv_dload_n C.1 C.2.1 dX8_fairness_63 rfl (lv_at hl 2 rfl) ?_
        refine lv_dconst0 C.1 C.2.1 dX8_fairness_64 ?_
        refine lv_dcmp C.1 C.2.1 dX8_fairness_65 ?_
        refine lv_if_ne (tgt := 73) C.1 C.2.1 dX8_fairness_66 (by decide) (fun hc => ?_) (fun hc => ?_)
        · have h := (if_neg hc).symm.trans h
          refine lv_dload_n C.1 C.2.1 dX8_fairness_73 rfl (lv_at hl 1 rfl) ?_
          refine lv_dload_n C.1 C.2.1 dX8_fairness_74 rfl (lv_at hl 1 rfl) ?_
          obtain ⟨hb, h⟩ := g_ob h
          refine lv_dmul C.1 C.2.1 dX8_fairness_75 hb ?_
          refine lv_aload_n C.1 C.2.1 dX8_fairness_76 rfl (lv_at hl 0 rfl) ?_
          refine g_getR C w fl_X8_7 sth kth (by decide) kt_8_1 (fun _ _ _ => rfl) dX8_fairness_77 (fun s3 k3 => ?_)
          refine lv_iconst (v := 4) C.1 C.2.1 dX8_fairness_80 (by decide) ?_
          obtain ⟨hb, h⟩ := g_ob h
          refine g_iald C w s3 k3 hb dX8_fairness_81 ?_
          refine lv_i2d C.1 C.2.1 dX8_fairness_82 ?_
          refine lv_dload_n C.1 C.2.1 dX8_fairness_83 rfl (lv_at hl 2 rfl) ?_
          obtain ⟨hb, h⟩ := g_ob h
          refine lv_dmul C.1 C.2.1 dX8_fairness_84 hb ?_
          obtain ⟨hb, h⟩ := g_ob h
          refine lv_ddiv C.1 C.2.1 dX8_fairness_85 hb ?_
          exact g_dretB C w hr dX8_fairness_86 h
        · have h := (if_pos hc).symm.trans h
          refine lv_dconst1 C.1 C.2.1 dX8_fairness_69 ?_
          refine lv_goto (tgt := 86) C.1 C.2.1 dX8_fairness_70 (by decide) ?_
          exact g_dretB C w hr dX8_fairness_86 h
      · have h := (if_neg hc).symm.trans h
        refine lv_aload_n C.1 C.2.1 dX8_fairness_23 rfl (lv_at hl 0 rfl) ?_
        refine lv_iload C.1 C.2.1 dX8_fairness_24 (lv_at hl 3 rfl) ?_
        refine lv_bipush (v := 10) C.1 C.2.1 dX8_fairness_26 (by decide) ?_
        obtain ⟨o4, ho4, h⟩ := g_bd h
        refine g_callV (n := 2) (As := [.int v5, .int 10]) (rest := []) C w (m_X8_of sth kth ho4) (cl_8).1 sth kth (by decide) ml_X8_217 iy_X8_of sy_X8_of in_X8 cy_X8_of ⟨rfl, by decide +kernel, by decide +kernel, by decide +kernel⟩ rfl ⟨Nat.le_of_ble_eq_true rfl, Nat.le_of_ble_eq_true rfl⟩ rfl (Nat.le_of_ble_eq_true rfl) hl.1 ⟨Nat.le_of_ble_eq_true rfl, Nat.le_of_ble_eq_true rfl⟩ dX8_fairness_28 (fun H locs w => ?_)
        refine lv_i2d C.1 C.2.1 dX8_fairness_31 ?_
        refine lv_aload_n C.1 C.2.1 dX8_fairness_32 rfl (lv_at hl 0 rfl) ?_
        refine lv_iload C.1 C.2.1 dX8_fairness_33 (lv_at hl 3 rfl) ?_
        refine lv_bipush (v := 13) C.1 C.2.1 dX8_fairness_35 (by decide) ?_
        obtain ⟨o5, ho5, h⟩ := g_bd h
        refine g_callV (n := 2) (As := [.int v5, .int 13]) (rest := [.double (FP.i2d o4)]) C w (m_X8_of sth kth ho5) (cl_8).1 sth kth (by decide) ml_X8_217 iy_X8_of sy_X8_of in_X8 cy_X8_of ⟨rfl, by decide +kernel, by decide +kernel, by decide +kernel⟩ rfl ⟨Nat.le_of_ble_eq_true rfl, Nat.le_of_ble_eq_true rfl⟩ rfl (Nat.le_of_ble_eq_true rfl) hl.1 ⟨Nat.le_of_ble_eq_true rfl, Nat.le_of_ble_eq_true rfl⟩ dX8_fairness_37 (fun H locs w => ?_)
        refine lv_i2d C.1 C.2.1 dX8_fairness_40 ?_
        obtain ⟨hb, h⟩ := g_ob h
        refine lv_ddiv C.1 C.2.1 dX8_fairness_41 hb ?_
        refine lv_dstore (lv' := [(6, .double (FP.ddiv (FP.i2d o4) (FP.i2d o5))), (0, .ref (B + th)), (1, .double v1), (3, .double v3), (5, .int v5)]) C.1 C.2.1 dX8_fairness_42 hl (by decide) rfl (fun ls hl => ?_)
        refine lv_dload_n C.1 C.2.1 dX8_fairness_44 rfl (lv_at hl 2 rfl) ?_
        refine lv_dload C.1 C.2.1 dX8_fairness_45 (lv_at hl 0 rfl) ?_
        obtain ⟨hb, h⟩ := g_ob h
        refine lv_dadd C.1 C.2.1 dX8_fairness_47 hb ?_
        refine lv_dstore_n (lv' := [(1, .double (FP.dadd v1 (FP.ddiv (FP.i2d o4) (FP.i2d o5)))), (6, .double (FP.ddiv (FP.i2d o4) (FP.i2d o5))), (0, .ref (B + th)), (3, .double v3), (5, .int v5)]) C.1 C.2.1 dX8_fairness_48 rfl hl (by decide) rfl (fun ls hl => ?_)
        refine lv_dload_n C.1 C.2.1 dX8_fairness_49 rfl (lv_at hl 3 rfl) ?_
        refine lv_dload C.1 C.2.1 dX8_fairness_50 (lv_at hl 1 rfl) ?_
        refine lv_dload C.1 C.2.1 dX8_fairness_52 (lv_at hl 1 rfl) ?_
        obtain ⟨hb, h⟩ := g_ob h
        refine lv_dmul C.1 C.2.1 dX8_fairness_54 hb ?_
        obtain ⟨hb, h⟩ := g_ob h
        refine lv_dadd C.1 C.2.1 dX8_fairness_55 hb ?_
        refine lv_dstore_n (lv' := [(3, .double (FP.dadd v3 (FP.dmul (FP.ddiv (FP.i2d o4) (FP.i2d o5)) (FP.ddiv (FP.i2d o4) (FP.i2d o5))))), (1, .double (FP.dadd v1 (FP.ddiv (FP.i2d o4) (FP.i2d o5)))), (6, .double (FP.ddiv (FP.i2d o4) (FP.i2d o5))), (0, .ref (B + th)), (5, .int v5)]) C.1 C.2.1 dX8_fairness_56 rfl hl (by decide) rfl (fun ls hl => ?_)
        refine lv_iinc (k := 4) (v := v5 + 1) (lv' := [(5, .int (v5 + 1)), (3, .double (FP.dadd v3 (FP.dmul (FP.ddiv (FP.i2d o4) (FP.i2d o5)) (FP.ddiv (FP.i2d o4) (FP.i2d o5))))), (1, .double (FP.dadd v1 (FP.ddiv (FP.i2d o4) (FP.i2d o5)))), (6, .double (FP.ddiv (FP.i2d o4) (FP.i2d o5))), (0, .ref (B + th))]) C.1 C.2.1 dX8_fairness_57 hl rfl rfl (by decide) rfl (fun ls hl => ?_)
        refine lv_goto (tgt := 12) C.1 C.2.1 dX8_fairness_60 (by decide) ?_
        exact ih12 _ _ _ _ _ _ _ h w (show lv_has ls 8 [(0, .ref (B + th)), (1, .double (FP.dadd v1 (FP.ddiv (FP.i2d o4) (FP.i2d o5)))), (3, .double (FP.dadd v3 (FP.dmul (FP.ddiv (FP.i2d o4) (FP.i2d o5)) (FP.ddiv (FP.i2d o4) (FP.i2d o5))))), (5, .int (v5 + 1))] from lv_sub hl [4, 2, 1, 0] rfl)
  have h := h0
  unfold F_X8_fairness at h
  refine lv_aload_n C.1 C.2.1 dX8_fairness_0 rfl (lv_at hl 0 rfl) ?_
  refine lv_iconst (v := 0) C.1 C.2.1 dX8_fairness_1 (by decide) ?_
  refine g_putI C w fw_X8_71 sth kth (by decide) (fun _ _ _ => rfl) rfl rfl dX8_fairness_2 (fun H locs w => ?_)
  refine lv_dconst0 C.1 C.2.1 dX8_fairness_5 ?_
  refine lv_dstore_n (lv' := [(1, .double FP.dconst0), (0, .ref (B + th))]) C.1 C.2.1 dX8_fairness_6 rfl hl (by decide) rfl (fun ls hl => ?_)
  refine lv_dconst0 C.1 C.2.1 dX8_fairness_7 ?_
  refine lv_dstore_n (lv' := [(3, .double FP.dconst0), (1, .double FP.dconst0), (0, .ref (B + th))]) C.1 C.2.1 dX8_fairness_8 rfl hl (by decide) rfl (fun ls hl => ?_)
  refine lv_iconst (v := 0) C.1 C.2.1 dX8_fairness_9 (by decide) ?_
  refine lv_istore (lv' := [(5, .int 0), (3, .double FP.dconst0), (1, .double FP.dconst0), (0, .ref (B + th))]) C.1 C.2.1 dX8_fairness_10 hl (by decide) rfl (fun ls hl => ?_)
  exact B_12 _ _ _ _ _ _ _ _ h w (show lv_has ls 8 [(0, .ref (B + th)), (1, .double FP.dconst0), (3, .double FP.dconst0), (5, .int 0)] from lv_sub hl [3, 2, 1, 0] rfl)

set_option maxHeartbeats 4000000 in
set_option maxRecDepth 100000 in
theorem m_X8_meanQuality {l : Launch} {D : va_G} {cA : Nat → ClassId} {B : Nat} {S : Nat → Prop} {σ : GS} {th : Nat} {a1 : Int32} {o : GS × UInt64} (sth : S th) (kth : kdG th = 8) (h0 : F_X8_meanQuality σ th a1 = some o) : MF l yX8_meanQuality cX8_meanQuality 2 (some .double) 3 65 D cA B S [.ref (B + th), .int a1] σ o.1 (some (.double o.2)) := by
  refine MF.of (by decide +kernel) (Nat.le_of_ble_eq_true rfl) ?_
  intro p e s m args below meth c C hr w ls hl
  have hl : lv_has ls 2 [(0, .ref (B + th)), (1, .int a1)] := hl
  have h := h0
  unfold F_X8_meanQuality at h
  refine lv_aload_n C.1 C.2.1 dX8_meanQuality_0 rfl (lv_at hl 0 rfl) ?_
  refine lv_iload_n C.1 C.2.1 dX8_meanQuality_1 rfl (lv_at hl 1 rfl) ?_
  obtain ⟨o1, ho1, h⟩ := g_bd h
  refine g_callV (n := 1) (As := [.int a1]) (rest := []) C w (m_X8_noPlayer sth kth ho1) (cl_8).1 sth kth (by decide) ml_X8_306 iy_X8_noPlayer sy_X8_noPlayer in_X8 cy_X8_noPlayer ⟨rfl, by decide +kernel, by decide +kernel, by decide +kernel⟩ rfl ⟨Nat.le_of_ble_eq_true rfl, Nat.le_of_ble_eq_true rfl⟩ rfl (Nat.le_of_ble_eq_true rfl) hl.1 ⟨Nat.le_of_ble_eq_true rfl, Nat.le_of_ble_eq_true rfl⟩ dX8_meanQuality_2 (fun H locs w => ?_)
  refine lv_if_eq (tgt := 10) C.1 C.2.1 dX8_meanQuality_5 (by decide) (fun hc => ?_) (fun hc => ?_)
  · have h := (if_pos hc).symm.trans h
    refine lv_aload_n C.1 C.2.1 dX8_meanQuality_10 rfl (lv_at hl 0 rfl) ?_
    refine lv_iload_n C.1 C.2.1 dX8_meanQuality_11 rfl (lv_at hl 1 rfl) ?_
    refine lv_iconst (v := 2) C.1 C.2.1 dX8_meanQuality_12 (by decide) ?_
    obtain ⟨o2, ho2, h⟩ := g_bd h
    refine g_callV (n := 2) (As := [.int a1, .int 2]) (rest := []) C w (m_X8_of sth kth ho2) (cl_8).1 sth kth (by decide) ml_X8_217 iy_X8_of sy_X8_of in_X8 cy_X8_of ⟨rfl, by decide +kernel, by decide +kernel, by decide +kernel⟩ rfl ⟨Nat.le_of_ble_eq_true rfl, Nat.le_of_ble_eq_true rfl⟩ rfl (Nat.le_of_ble_eq_true rfl) hl.1 ⟨Nat.le_of_ble_eq_true rfl, Nat.le_of_ble_eq_true rfl⟩ dX8_meanQuality_13 (fun H locs w => ?_)
    refine lv_if_ne (tgt := 23) C.1 C.2.1 dX8_meanQuality_16 (by decide) (fun hc => ?_) (fun hc => ?_)
    · have h := (if_neg hc).symm.trans h
      refine lv_aload_n C.1 C.2.1 dX8_meanQuality_23 rfl (lv_at hl 0 rfl) ?_
      refine lv_iload_n C.1 C.2.1 dX8_meanQuality_24 rfl (lv_at hl 1 rfl) ?_
      refine lv_bipush (v := 9) C.1 C.2.1 dX8_meanQuality_25 (by decide) ?_
      obtain ⟨o3, ho3, h⟩ := g_bd h
      refine g_callV (n := 2) (As := [.int a1, .int 9]) (rest := []) C w (m_X8_of sth kth ho3) (cl_8).1 sth kth (by decide) ml_X8_217 iy_X8_of sy_X8_of in_X8 cy_X8_of ⟨rfl, by decide +kernel, by decide +kernel, by decide +kernel⟩ rfl ⟨Nat.le_of_ble_eq_true rfl, Nat.le_of_ble_eq_true rfl⟩ rfl (Nat.le_of_ble_eq_true rfl) hl.1 ⟨Nat.le_of_ble_eq_true rfl, Nat.le_of_ble_eq_true rfl⟩ dX8_meanQuality_27 (fun H locs w => ?_)
      refine lv_i2d C.1 C.2.1 dX8_meanQuality_30 ?_
      refine lv_aload_n C.1 C.2.1 dX8_meanQuality_31 rfl (lv_at hl 0 rfl) ?_
      refine lv_iload_n C.1 C.2.1 dX8_meanQuality_32 rfl (lv_at hl 1 rfl) ?_
      refine lv_iconst (v := 2) C.1 C.2.1 dX8_meanQuality_33 (by decide) ?_
      obtain ⟨o4, ho4, h⟩ := g_bd h
      refine g_callV (n := 2) (As := [.int a1, .int 2]) (rest := [.double (FP.i2d o3)]) C w (m_X8_of sth kth ho4) (cl_8).1 sth kth (by decide) ml_X8_217 iy_X8_of sy_X8_of in_X8 cy_X8_of ⟨rfl, by decide +kernel, by decide +kernel, by decide +kernel⟩ rfl ⟨Nat.le_of_ble_eq_true rfl, Nat.le_of_ble_eq_true rfl⟩ rfl (Nat.le_of_ble_eq_true rfl) hl.1 ⟨Nat.le_of_ble_eq_true rfl, Nat.le_of_ble_eq_true rfl⟩ dX8_meanQuality_34 (fun H locs w => ?_)
      refine lv_i2d C.1 C.2.1 dX8_meanQuality_37 ?_
      obtain ⟨hb, h⟩ := g_ob h
      refine lv_ddiv C.1 C.2.1 dX8_meanQuality_38 hb ?_
      exact g_dretB C w hr dX8_meanQuality_39 h
    · have h := (if_pos hc).symm.trans h
      refine lv_dconst0 C.1 C.2.1 dX8_meanQuality_19 ?_
      refine lv_goto (tgt := 39) C.1 C.2.1 dX8_meanQuality_20 (by decide) ?_
      exact g_dretB C w hr dX8_meanQuality_39 h
  · have h := (if_neg hc).symm.trans h
    refine lv_dconst0 C.1 C.2.1 dX8_meanQuality_8 ?_
    exact g_dretB C w hr dX8_meanQuality_9 h

set_option maxHeartbeats 4000000 in
set_option maxRecDepth 100000 in
theorem m_X8_bytesTold {l : Launch} {D : va_G} {cA : Nat → ClassId} {B : Nat} {S : Nat → Prop} {σ : GS} {th : Nat} {a1 : Int32} {o : Int32} (sth : S th) (kth : kdG th = 8) (h0 : F_X8_bytesTold σ th a1 = some o) : MF l yX8_bytesTold cX8_bytesTold 4 (some .int) 2 48 D cA B S [.ref (B + th), .int a1] σ σ (some (.int o)) := by
  refine MF.of (by decide +kernel) (Nat.le_of_ble_eq_true rfl) ?_
  intro p e s m args below meth c C hr w ls hl
  have hl : lv_has ls 4 [(0, .ref (B + th)), (1, .int a1)] := hl
  have B_41 : ∀ (n41 : Nat) (v2 : Int32) (v3 : Int32) (H : Heap) (locs : List Loc) (ls : Array Slot), L_X8_bytesTold_41 th a1 n41 σ v2 v3 = some o → WS D cA B S σ s H locs → lv_has ls 4 [(0, .ref (B + th)), (1, .int a1), (2, .int v2), (3, .int v3)] → W p l e (rmF 2 48) s m args below meth c H locs 0 0 (MQ below (QF D cA B S σ (some (.int o))) args s 0 0 (AB B S)) (F0 m 41 ls []) := by
    intro n41
    induction n41 with
    | zero => intro  v2 v3 H locs ls h; exact nomatch (show (none : Option (Int32)) = some o from h)
    | succ n41 ih41 =>
      intro  v2 v3 H locs ls h  w hl
      unfold L_X8_bytesTold_41 at h
      refine lv_iload_n C.1 C.2.1 dX8_bytesTold_41 rfl (lv_at hl 3 rfl) ?_
      refine lv_aload_n C.1 C.2.1 dX8_bytesTold_42 rfl (lv_at hl 0 rfl) ?_
      refine lv_iload_n C.1 C.2.1 dX8_bytesTold_43 rfl (lv_at hl 1 rfl) ?_
      refine lv_iconst (v := 2) C.1 C.2.1 dX8_bytesTold_44 (by decide) ?_
      obtain ⟨o6, ho6, h⟩ := g_bd h
      refine g_callV (n := 2) (As := [.int a1, .int 2]) (rest := [.int v3]) C w (m_X8_of sth kth ho6) (cl_8).1 sth kth (by decide) ml_X8_217 iy_X8_of sy_X8_of in_X8 cy_X8_of ⟨rfl, by decide +kernel, by decide +kernel, by decide +kernel⟩ rfl ⟨Nat.le_of_ble_eq_true rfl, Nat.le_of_ble_eq_true rfl⟩ rfl (Nat.le_of_ble_eq_true rfl) hl.1 ⟨Nat.le_of_ble_eq_true rfl, Nat.le_of_ble_eq_true rfl⟩ dX8_bytesTold_45 (fun H locs w => ?_)
      refine lv_icmp_ge (tgt := 77) C.1 C.2.1 dX8_bytesTold_48 (by decide) (fun hc => ?_) (fun hc => ?_)
      · have h := (if_pos hc).symm.trans h
        refine lv_iload_n C.1 C.2.1 dX8_bytesTold_77 rfl (lv_at hl 2 rfl) ?_
        exact g_iretP C w hr dX8_bytesTold_78 h
      · have h := (if_neg hc).symm.trans h
        refine lv_iload_n C.1 C.2.1 dX8_bytesTold_51 rfl (lv_at hl 2 rfl) ?_
        refine lv_aload_n C.1 C.2.1 dX8_bytesTold_52 rfl (lv_at hl 0 rfl) ?_
        refine lv_iload_n C.1 C.2.1 dX8_bytesTold_53 rfl (lv_at hl 1 rfl) ?_
        refine lv_iload_n C.1 C.2.1 dX8_bytesTold_54 rfl (lv_at hl 3 rfl) ?_
        refine lv_aload_n C.1 C.2.1 dX8_bytesTold_55 rfl (lv_at hl 0 rfl) ?_
        refine lv_iload_n C.1 C.2.1 dX8_bytesTold_56 rfl (lv_at hl 1 rfl) ?_
        refine lv_bipush (v := 15) C.1 C.2.1 dX8_bytesTold_57 (by decide) ?_
        refine lv_iconst (v := 3) C.1 C.2.1 dX8_bytesTold_59 (by decide) ?_
        refine lv_iload_n C.1 C.2.1 dX8_bytesTold_60 rfl (lv_at hl 3 rfl) ?_
        refine lv_imul C.1 C.2.1 dX8_bytesTold_61 ?_
        refine lv_iadd C.1 C.2.1 dX8_bytesTold_62 ?_
        obtain ⟨o7, ho7, h⟩ := g_bd h
        refine g_callV (n := 2) (As := [.int a1, .int (15 + (3 * v3))]) (rest := [.int v3, .int a1, .ref (B + th), .int v2]) C w (m_X8_of sth kth ho7) (cl_8).1 sth kth (by decide) ml_X8_217 iy_X8_of sy_X8_of in_X8 cy_X8_of ⟨rfl, by decide +kernel, by decide +kernel, by decide +kernel⟩ rfl ⟨Nat.le_of_ble_eq_true rfl, Nat.le_of_ble_eq_true rfl⟩ rfl (Nat.le_of_ble_eq_true rfl) hl.1 ⟨Nat.le_of_ble_eq_true rfl, Nat.le_of_ble_eq_true rfl⟩ dX8_bytesTold_63 (fun H locs w => ?_)
        obtain ⟨o8, ho8, h⟩ := g_bd h
        refine g_callV (n := 3) (As := [.int a1, .int v3, .int o7]) (rest := [.int v2]) C w (m_X8_sizeAt sth kth ho8) (cl_8).1 sth kth (by decide) ml_X8_223 iy_X8_sizeAt sy_X8_sizeAt in_X8 cy_X8_sizeAt ⟨rfl, by decide +kernel, by decide +kernel, by decide +kernel⟩ rfl ⟨Nat.le_of_ble_eq_true rfl, Nat.le_of_ble_eq_true rfl⟩ rfl (Nat.le_of_ble_eq_true rfl) hl.1 ⟨Nat.le_of_ble_eq_true rfl, Nat.le_of_ble_eq_true rfl⟩ dX8_bytesTold_66 (fun H locs w => ?_)
        refine lv_iadd C.1 C.2.1 dX8_bytesTold_69 ?_
        refine lv_istore_n (lv' := [(2, .int (v2 + o8)), (0, .ref (B + th)), (1, .int a1), (3, .int v3)]) C.1 C.2.1 dX8_bytesTold_70 rfl hl (by decide) rfl (fun ls hl => ?_)
        refine lv_iinc (k := 3) (v := v3 + 1) (lv' := [(3, .int (v3 + 1)), (2, .int (v2 + o8)), (0, .ref (B + th)), (1, .int a1)]) C.1 C.2.1 dX8_bytesTold_71 hl rfl rfl (by decide) rfl (fun ls hl => ?_)
        refine lv_goto (tgt := 41) C.1 C.2.1 dX8_bytesTold_74 (by decide) ?_
        exact ih41 _ _ _ _ _ h w (show lv_has ls 4 [(0, .ref (B + th)), (1, .int a1), (2, .int (v2 + o8)), (3, .int (v3 + 1))] from lv_sub hl [2, 3, 1, 0] rfl)
  have h := h0
  unfold F_X8_bytesTold at h
  refine lv_aload_n C.1 C.2.1 dX8_bytesTold_0 rfl (lv_at hl 0 rfl) ?_
  refine lv_iload_n C.1 C.2.1 dX8_bytesTold_1 rfl (lv_at hl 1 rfl) ?_
  refine lv_iconst (v := 3) C.1 C.2.1 dX8_bytesTold_2 (by decide) ?_
  obtain ⟨o1, ho1, h⟩ := g_bd h
  refine g_callV (n := 2) (As := [.int a1, .int 3]) (rest := []) C w (m_X8_of sth kth ho1) (cl_8).1 sth kth (by decide) ml_X8_217 iy_X8_of sy_X8_of in_X8 cy_X8_of ⟨rfl, by decide +kernel, by decide +kernel, by decide +kernel⟩ rfl ⟨Nat.le_of_ble_eq_true rfl, Nat.le_of_ble_eq_true rfl⟩ rfl (Nat.le_of_ble_eq_true rfl) hl.1 ⟨Nat.le_of_ble_eq_true rfl, Nat.le_of_ble_eq_true rfl⟩ dX8_bytesTold_3 (fun H locs w => ?_)
  refine lv_iconst (v := (-1)) C.1 C.2.1 dX8_bytesTold_6 (by decide) ?_
  refine lv_icmp_ne (tgt := 14) C.1 C.2.1 dX8_bytesTold_7 (by decide) (fun hc => ?_) (fun hc => ?_)
  · have h := (if_neg hc).symm.trans h
    refine lv_aload_n C.1 C.2.1 dX8_bytesTold_14 rfl (lv_at hl 0 rfl) ?_
    refine lv_iload_n C.1 C.2.1 dX8_bytesTold_15 rfl (lv_at hl 1 rfl) ?_
    refine lv_aload_n C.1 C.2.1 dX8_bytesTold_16 rfl (lv_at hl 0 rfl) ?_
    refine lv_iload_n C.1 C.2.1 dX8_bytesTold_17 rfl (lv_at hl 1 rfl) ?_
    refine lv_iconst (v := 2) C.1 C.2.1 dX8_bytesTold_18 (by decide) ?_
    obtain ⟨o2, ho2, h⟩ := g_bd h
    refine g_callV (n := 2) (As := [.int a1, .int 2]) (rest := [.int a1, .ref (B + th)]) C w (m_X8_of sth kth ho2) (cl_8).1 sth kth (by decide) ml_X8_217 iy_X8_of sy_X8_of in_X8 cy_X8_of ⟨rfl, by decide +kernel, by decide +kernel, by decide +kernel⟩ rfl ⟨Nat.le_of_ble_eq_true rfl, Nat.le_of_ble_eq_true rfl⟩ rfl (Nat.le_of_ble_eq_true rfl) hl.1 ⟨Nat.le_of_ble_eq_true rfl, Nat.le_of_ble_eq_true rfl⟩ dX8_bytesTold_19 (fun H locs w => ?_)
    refine lv_aload_n C.1 C.2.1 dX8_bytesTold_22 rfl (lv_at hl 0 rfl) ?_
    refine lv_iload_n C.1 C.2.1 dX8_bytesTold_23 rfl (lv_at hl 1 rfl) ?_
    refine lv_iconst (v := 3) C.1 C.2.1 dX8_bytesTold_24 (by decide) ?_
    obtain ⟨o3, ho3, h⟩ := g_bd h
    refine g_callV (n := 2) (As := [.int a1, .int 3]) (rest := [.int o2, .int a1, .ref (B + th)]) C w (m_X8_of sth kth ho3) (cl_8).1 sth kth (by decide) ml_X8_217 iy_X8_of sy_X8_of in_X8 cy_X8_of ⟨rfl, by decide +kernel, by decide +kernel, by decide +kernel⟩ rfl ⟨Nat.le_of_ble_eq_true rfl, Nat.le_of_ble_eq_true rfl⟩ rfl (Nat.le_of_ble_eq_true rfl) hl.1 ⟨Nat.le_of_ble_eq_true rfl, Nat.le_of_ble_eq_true rfl⟩ dX8_bytesTold_25 (fun H locs w => ?_)
    obtain ⟨o4, ho4, h⟩ := g_bd h
    refine g_callV (n := 3) (As := [.int a1, .int o2, .int o3]) (rest := []) C w (m_X8_sizeAt sth kth ho4) (cl_8).1 sth kth (by decide) ml_X8_223 iy_X8_sizeAt sy_X8_sizeAt in_X8 cy_X8_sizeAt ⟨rfl, by decide +kernel, by decide +kernel, by decide +kernel⟩ rfl ⟨Nat.le_of_ble_eq_true rfl, Nat.le_of_ble_eq_true rfl⟩ rfl (Nat.le_of_ble_eq_true rfl) hl.1 ⟨Nat.le_of_ble_eq_true rfl, Nat.le_of_ble_eq_true rfl⟩ dX8_bytesTold_28 (fun H locs w => ?_)
    refine lv_aload_n C.1 C.2.1 dX8_bytesTold_31 rfl (lv_at hl 0 rfl) ?_
    refine lv_iload_n C.1 C.2.1 dX8_bytesTold_32 rfl (lv_at hl 1 rfl) ?_
    refine lv_iconst (v := 4) C.1 C.2.1 dX8_bytesTold_33 (by decide) ?_
    obtain ⟨o5, ho5, h⟩ := g_bd h
    refine g_callV (n := 2) (As := [.int a1, .int 4]) (rest := [.int o4]) C w (m_X8_of sth kth ho5) (cl_8).1 sth kth (by decide) ml_X8_217 iy_X8_of sy_X8_of in_X8 cy_X8_of ⟨rfl, by decide +kernel, by decide +kernel, by decide +kernel⟩ rfl ⟨Nat.le_of_ble_eq_true rfl, Nat.le_of_ble_eq_true rfl⟩ rfl (Nat.le_of_ble_eq_true rfl) hl.1 ⟨Nat.le_of_ble_eq_true rfl, Nat.le_of_ble_eq_true rfl⟩ dX8_bytesTold_34 (fun H locs w => ?_)
    refine lv_isub C.1 C.2.1 dX8_bytesTold_37 ?_
    refine lv_istore_n (lv' := [(2, .int (o4 - o5)), (0, .ref (B + th)), (1, .int a1)]) C.1 C.2.1 dX8_bytesTold_38 rfl hl (by decide) rfl (fun ls hl => ?_)
    refine lv_iconst (v := 0) C.1 C.2.1 dX8_bytesTold_39 (by decide) ?_
    refine lv_istore_n (lv' := [(3, .int 0), (2, .int (o4 - o5)), (0, .ref (B + th)), (1, .int a1)]) C.1 C.2.1 dX8_bytesTold_40 rfl hl (by decide) rfl (fun ls hl => ?_)
    exact B_41 _ _ _ _ _ _ h w (show lv_has ls 4 [(0, .ref (B + th)), (1, .int a1), (2, .int (o4 - o5)), (3, .int 0)] from lv_sub hl [2, 3, 1, 0] rfl)
  · have h := (if_pos hc).symm.trans h
    refine lv_iconst (v := 0) C.1 C.2.1 dX8_bytesTold_10 (by decide) ?_
    refine lv_goto (tgt := 38) C.1 C.2.1 dX8_bytesTold_11 (by decide) ?_
    refine lv_istore_n (lv' := [(2, .int 0), (0, .ref (B + th)), (1, .int a1)]) C.1 C.2.1 dX8_bytesTold_38 rfl hl (by decide) rfl (fun ls hl => ?_)
    refine lv_iconst (v := 0) C.1 C.2.1 dX8_bytesTold_39 (by decide) ?_
    refine lv_istore_n (lv' := [(3, .int 0), (2, .int 0), (0, .ref (B + th)), (1, .int a1)]) C.1 C.2.1 dX8_bytesTold_40 rfl hl (by decide) rfl (fun ls hl => ?_)
    exact B_41 _ _ _ _ _ _ h w (show lv_has ls 4 [(0, .ref (B + th)), (1, .int a1), (2, .int 0), (3, .int 0)] from lv_sub hl [2, 3, 1, 0] rfl)

set_option maxHeartbeats 4000000 in
set_option maxRecDepth 100000 in
theorem m_X8_isWhole {l : Launch} {D : va_G} {cA : Nat → ClassId} {B : Nat} {S : Nat → Prop} {σ : GS} {th : Nat} {o : GS × Int32} (sth : S th) (kth : kdG th = 8) (h0 : F_X8_isWhole σ th = some o) : MF l yX8_isWhole cX8_isWhole 4 (some .boolean) 3 71 D cA B S [.ref (B + th)] σ o.1 (some (.int o.2)) := by
  refine MF.of (by decide +kernel) (Nat.le_of_ble_eq_true rfl) ?_
  intro p e s m args below meth c C hr w ls hl
  have hl : lv_has ls 4 [(0, .ref (B + th))] := hl
  have B_11 : ∀ (n11 : Nat) (σ : GS) (v1 : Int32) (v2 : Int32) (v3 : Int32) (H : Heap) (locs : List Loc) (ls : Array Slot), L_X8_isWhole_11 th n11 σ v1 v2 v3 = some o → WS D cA B S σ s H locs → lv_has ls 4 [(0, .ref (B + th)), (1, .int v1), (2, .int v2), (3, .int v3)] → W p l e (rmF 3 71) s m args below meth c H locs 0 0 (MQ below (QF D cA B S o.1 (some (.int o.2))) args s 0 0 (AB B S)) (F0 m 11 ls []) := by
    intro n11
    induction n11 with
    | zero => intro σ v1 v2 v3 H locs ls h; exact nomatch (show (none : Option (GS × Int32)) = some o from h)
    | succ n11 ih11 =>
      intro σ v1 v2 v3 H locs ls h  w hl
      unfold L_X8_isWhole_11 at h
      refine lv_iload_n C.1 C.2.1 dX8_isWhole_11 rfl (lv_at hl 3 rfl) ?_
      refine lv_aload_n C.1 C.2.1 dX8_isWhole_12 rfl (lv_at hl 0 rfl) ?_
      refine g_getR C w fl_X8_7 sth kth (by decide) kt_8_1 (fun _ _ _ => rfl) dX8_isWhole_13 (fun s2 k2 => ?_)
      refine lv_iconst (v := 4) C.1 C.2.1 dX8_isWhole_16 (by decide) ?_
      obtain ⟨hb, h⟩ := g_ob h
      refine g_iald C w s2 k2 hb dX8_isWhole_17 ?_
      refine lv_icmp_ge (tgt := 91) C.1 C.2.1 dX8_isWhole_18 (by decide) (fun hc => ?_) (fun hc => ?_)
      · have h := (if_pos hc).symm.trans h
        refine lv_iload_n C.1 C.2.1 dX8_isWhole_91 rfl (lv_at hl 2 rfl) ?_
        refine lv_if_eq (tgt := 110) C.1 C.2.1 dX8_isWhole_92 (by decide) (fun hc => ?_) (fun hc => ?_)
        · have h := (if_pos hc).symm.trans h
          refine lv_iconst (v := 0) C.1 C.2.1 dX8_isWhole_110 (by decide) ?_
          exact g_zretB C w hr (by decide) dX8_isWhole_111 h
        · have h := (if_neg hc).symm.trans h
          refine lv_iload_n C.1 C.2.1 dX8_isWhole_95 rfl (lv_at hl 1 rfl) ?_
          refine lv_aload_n C.1 C.2.1 dX8_isWhole_96 rfl (lv_at hl 0 rfl) ?_
          refine g_getR C w fl_X8_17 sth kth (by decide) kt_8_3 (fun _ _ _ => rfl) dX8_isWhole_97 (fun s3 k3 => ?_)
          refine lv_bipush (v := 9) C.1 C.2.1 dX8_isWhole_100 (by decide) ?_
          obtain ⟨hb, h⟩ := g_ob h
          refine g_iald C w s3 k3 hb dX8_isWhole_102 ?_
          refine lv_icmp_ne (tgt := 110) C.1 C.2.1 dX8_isWhole_103 (by decide) (fun hc => ?_) (fun hc => ?_)
          · have h := (if_neg hc).symm.trans h
            refine lv_iconst (v := 0) C.1 C.2.1 dX8_isWhole_110 (by decide) ?_
            exact g_zretB C w hr (by decide) dX8_isWhole_111 h
          · have h := (if_pos hc).symm.trans h
            refine lv_iconst (v := 1) C.1 C.2.1 dX8_isWhole_106 (by decide) ?_
            refine lv_goto (tgt := 111) C.1 C.2.1 dX8_isWhole_107 (by decide) ?_
            exact g_zretB C w hr (by decide) dX8_isWhole_111 h
      · have h := (if_neg hc).symm.trans h
        refine lv_iload_n C.1 C.2.1 dX8_isWhole_21 rfl (lv_at hl 1 rfl) ?_
        refine lv_aload_n C.1 C.2.1 dX8_isWhole_22 rfl (lv_at hl 0 rfl) ?_
        refine lv_iload_n C.1 C.2.1 dX8_isWhole_23 rfl (lv_at hl 3 rfl) ?_
        refine lv_bipush (v := 10) C.1 C.2.1 dX8_isWhole_24 (by decide) ?_
        obtain ⟨o4, ho4, h⟩ := g_bd h
        refine g_callV (n := 2) (As := [.int v3, .int 10]) (rest := [.int v1]) C w (m_X8_of sth kth ho4) (cl_8).1 sth kth (by decide) ml_X8_217 iy_X8_of sy_X8_of in_X8 cy_X8_of ⟨rfl, by decide +kernel, by decide +kernel, by decide +kernel⟩ rfl ⟨Nat.le_of_ble_eq_true rfl, Nat.le_of_ble_eq_true rfl⟩ rfl (Nat.le_of_ble_eq_true rfl) hl.1 ⟨Nat.le_of_ble_eq_true rfl, Nat.le_of_ble_eq_true rfl⟩ dX8_isWhole_26 (fun H locs w => ?_)
        refine lv_iadd C.1 C.2.1 dX8_isWhole_29 ?_
        refine lv_istore_n (lv' := [(1, .int (v1 + o4)), (0, .ref (B + th)), (2, .int v2), (3, .int v3)]) C.1 C.2.1 dX8_isWhole_30 rfl hl (by decide) rfl (fun ls hl => ?_)
        refine lv_iload_n C.1 C.2.1 dX8_isWhole_31 rfl (lv_at hl 2 rfl) ?_
        refine lv_if_eq (tgt := 83) C.1 C.2.1 dX8_isWhole_32 (by decide) (fun hc => ?_) (fun hc => ?_)
        · have h := (if_pos hc).symm.trans h
          refine lv_iconst (v := 0) C.1 C.2.1 dX8_isWhole_83 (by decide) ?_
          refine lv_istore_n (lv' := [(2, .int 0), (1, .int (v1 + o4)), (0, .ref (B + th)), (3, .int v3)]) C.1 C.2.1 dX8_isWhole_84 rfl hl (by decide) rfl (fun ls hl => ?_)
          refine lv_iinc (k := 3) (v := v3 + 1) (lv' := [(3, .int (v3 + 1)), (2, .int 0), (1, .int (v1 + o4)), (0, .ref (B + th))]) C.1 C.2.1 dX8_isWhole_85 hl rfl rfl (by decide) rfl (fun ls hl => ?_)
          refine lv_goto (tgt := 11) C.1 C.2.1 dX8_isWhole_88 (by decide) ?_
          exact ih11 _ _ _ _ _ _ _ h w (show lv_has ls 4 [(0, .ref (B + th)), (1, .int (v1 + o4)), (2, .int 0), (3, .int (v3 + 1))] from lv_sub hl [3, 2, 1, 0] rfl)
        · have h := (if_neg hc).symm.trans h
          refine lv_aload_n C.1 C.2.1 dX8_isWhole_35 rfl (lv_at hl 1 rfl) ?_
          refine lv_iload_n C.1 C.2.1 dX8_isWhole_36 rfl (lv_at hl 3 rfl) ?_
          obtain ⟨o5, ho5, h⟩ := g_bd h
          refine g_callV (n := 1) (As := [.int v3]) (rest := []) C w (m_X8_bytesTold sth kth ho5) (cl_8).1 sth kth (by decide) ml_X8_323 iy_X8_bytesTold sy_X8_bytesTold in_X8 cy_X8_bytesTold ⟨rfl, by decide +kernel, by decide +kernel, by decide +kernel⟩ rfl ⟨Nat.le_of_ble_eq_true rfl, Nat.le_of_ble_eq_true rfl⟩ rfl (Nat.le_of_ble_eq_true rfl) hl.1 ⟨Nat.le_of_ble_eq_true rfl, Nat.le_of_ble_eq_true rfl⟩ dX8_isWhole_37 (fun H locs w => ?_)
          refine lv_aload_n C.1 C.2.1 dX8_isWhole_40 rfl (lv_at hl 1 rfl) ?_
          refine lv_iload_n C.1 C.2.1 dX8_isWhole_41 rfl (lv_at hl 3 rfl) ?_
          refine lv_bipush (v := 10) C.1 C.2.1 dX8_isWhole_42 (by decide) ?_
          obtain ⟨o6, ho6, h⟩ := g_bd h
          refine g_callV (n := 2) (As := [.int v3, .int 10]) (rest := [.int o5]) C w (m_X8_of sth kth ho6) (cl_8).1 sth kth (by decide) ml_X8_217 iy_X8_of sy_X8_of in_X8 cy_X8_of ⟨rfl, by decide +kernel, by decide +kernel, by decide +kernel⟩ rfl ⟨Nat.le_of_ble_eq_true rfl, Nat.le_of_ble_eq_true rfl⟩ rfl (Nat.le_of_ble_eq_true rfl) hl.1 ⟨Nat.le_of_ble_eq_true rfl, Nat.le_of_ble_eq_true rfl⟩ dX8_isWhole_44 (fun H locs w => ?_)
          refine lv_icmp_ne (tgt := 83) C.1 C.2.1 dX8_isWhole_47 (by decide) (fun hc => ?_) (fun hc => ?_)
          · have h := (if_neg hc).symm.trans h
            refine lv_iconst (v := 0) C.1 C.2.1 dX8_isWhole_83 (by decide) ?_
            refine lv_istore_n (lv' := [(2, .int 0), (1, .int (v1 + o4)), (0, .ref (B + th)), (3, .int v3)]) C.1 C.2.1 dX8_isWhole_84 rfl hl (by decide) rfl (fun ls hl => ?_)
            refine lv_iinc (k := 3) (v := v3 + 1) (lv' := [(3, .int (v3 + 1)), (2, .int 0), (1, .int (v1 + o4)), (0, .ref (B + th))]) C.1 C.2.1 dX8_isWhole_85 hl rfl rfl (by decide) rfl (fun ls hl => ?_)
            refine lv_goto (tgt := 11) C.1 C.2.1 dX8_isWhole_88 (by decide) ?_
            exact ih11 _ _ _ _ _ _ _ h w (show lv_has ls 4 [(0, .ref (B + th)), (1, .int (v1 + o4)), (2, .int 0), (3, .int (v3 + 1))] from lv_sub hl [3, 2, 1, 0] rfl)
          · have h := (if_pos hc).symm.trans h
            refine lv_aload_n C.1 C.2.1 dX8_isWhole_50 rfl (lv_at hl 1 rfl) ?_
            refine lv_iload_n C.1 C.2.1 dX8_isWhole_51 rfl (lv_at hl 3 rfl) ?_
            refine lv_iconst (v := 5) C.1 C.2.1 dX8_isWhole_52 (by decide) ?_
            obtain ⟨o7, ho7, h⟩ := g_bd h
            refine g_callV (n := 2) (As := [.int v3, .int 5]) (rest := []) C w (m_X8_of sth kth ho7) (cl_8).1 sth kth (by decide) ml_X8_217 iy_X8_of sy_X8_of in_X8 cy_X8_of ⟨rfl, by decide +kernel, by decide +kernel, by decide +kernel⟩ rfl ⟨Nat.le_of_ble_eq_true rfl, Nat.le_of_ble_eq_true rfl⟩ rfl (Nat.le_of_ble_eq_true rfl) hl.1 ⟨Nat.le_of_ble_eq_true rfl, Nat.le_of_ble_eq_true rfl⟩ dX8_isWhole_53 (fun H locs w => ?_)
            refine lv_aload_n C.1 C.2.1 dX8_isWhole_56 rfl (lv_at hl 1 rfl) ?_
            refine lv_iload_n C.1 C.2.1 dX8_isWhole_57 rfl (lv_at hl 3 rfl) ?_
            refine lv_iconst (v := 1) C.1 C.2.1 dX8_isWhole_58 (by decide) ?_
            obtain ⟨o8, ho8, h⟩ := g_bd h
            refine g_callV (n := 2) (As := [.int v3, .int 1]) (rest := [.int o7]) C w (m_X8_of sth kth ho8) (cl_8).1 sth kth (by decide) ml_X8_217 iy_X8_of sy_X8_of in_X8 cy_X8_of ⟨rfl, by decide +kernel, by decide +kernel, by decide +kernel⟩ rfl ⟨Nat.le_of_ble_eq_true rfl, Nat.le_of_ble_eq_true rfl⟩ rfl (Nat.le_of_ble_eq_true rfl) hl.1 ⟨Nat.le_of_ble_eq_true rfl, Nat.le_of_ble_eq_true rfl⟩ dX8_isWhole_59 (fun H locs w => ?_)
            refine lv_iadd C.1 C.2.1 dX8_isWhole_62 ?_
            refine lv_aload_n C.1 C.2.1 dX8_isWhole_63 rfl (lv_at hl 1 rfl) ?_
            refine lv_iload_n C.1 C.2.1 dX8_isWhole_64 rfl (lv_at hl 3 rfl) ?_
            refine lv_iconst (v := 2) C.1 C.2.1 dX8_isWhole_65 (by decide) ?_
            obtain ⟨o9, ho9, h⟩ := g_bd h
            refine g_callV (n := 2) (As := [.int v3, .int 2]) (rest := [.int (o7 + o8)]) C w (m_X8_of sth kth ho9) (cl_8).1 sth kth (by decide) ml_X8_217 iy_X8_of sy_X8_of in_X8 cy_X8_of ⟨rfl, by decide +kernel, by decide +kernel, by decide +kernel⟩ rfl ⟨Nat.le_of_ble_eq_true rfl, Nat.le_of_ble_eq_true rfl⟩ rfl (Nat.le_of_ble_eq_true rfl) hl.1 ⟨Nat.le_of_ble_eq_true rfl, Nat.le_of_ble_eq_true rfl⟩ dX8_isWhole_66 (fun H locs w => ?_)
            refine lv_aload_n C.1 C.2.1 dX8_isWhole_69 rfl (lv_at hl 1 rfl) ?_
            refine g_getR C w fl_X8_7 sth kth (by decide) kt_8_1 (fun _ _ _ => rfl) dX8_isWhole_70 (fun s10 k10 => ?_)
            refine lv_iconst (v := 0) C.1 C.2.1 dX8_isWhole_73 (by decide) ?_
            obtain ⟨hb, h⟩ := g_ob h
            refine g_iald C w s10 k10 hb dX8_isWhole_74 ?_
            refine lv_imul C.1 C.2.1 dX8_isWhole_75 ?_
            refine lv_icmp_ne (tgt := 83) C.1 C.2.1 dX8_isWhole_76 (by decide) (fun hc => ?_) (fun hc => ?_)
            · have h := (if_neg hc).symm.trans h
              refine lv_iconst (v := 0) C.1 C.2.1 dX8_isWhole_83 (by decide) ?_
              refine lv_istore_n (lv' := [(2, .int 0), (1, .int (v1 + o4)), (0, .ref (B + th)), (3, .int v3)]) C.1 C.2.1 dX8_isWhole_84 rfl hl (by decide) rfl (fun ls hl => ?_)
              refine lv_iinc (k := 3) (v := v3 + 1) (lv' := [(3, .int (v3 + 1)), (2, .int 0), (1, .int (v1 + o4)), (0, .ref (B + th))]) C.1 C.2.1 dX8_isWhole_85 hl rfl rfl (by decide) rfl (fun ls hl => ?_)
              refine lv_goto (tgt := 11) C.1 C.2.1 dX8_isWhole_88 (by decide) ?_
              exact ih11 _ _ _ _ _ _ _ h w (show lv_has ls 4 [(0, .ref (B + th)), (1, .int (v1 + o4)), (2, .int 0), (3, .int (v3 + 1))] from lv_sub hl [3, 2, 1, 0] rfl)
            · have h := (if_pos hc).symm.trans h
              refine lv_iconst (v := 1) C.1 C.2.1 dX8_isWhole_79 (by decide) ?_
              refine lv_goto (tgt := 84) C.1 C.2.1 dX8_isWhole_80 (by decide) ?_
              refine lv_istore_n (lv' := [(2, .int 1), (1, .int (v1 + o4)), (0, .ref (B + th)), (3, .int v3)]) C.1 C.2.1 dX8_isWhole_84 rfl hl (by decide) rfl (fun ls hl => ?_)
              refine lv_iinc (k := 3) (v := v3 + 1) (lv' := [(3, .int (v3 + 1)), (2, .int 1), (1, .int (v1 + o4)), (0, .ref (B + th))]) C.1 C.2.1 dX8_isWhole_85 hl rfl rfl (by decide) rfl (fun ls hl => ?_)
              refine lv_goto (tgt := 11) C.1 C.2.1 dX8_isWhole_88 (by decide) ?_
              exact ih11 _ _ _ _ _ _ _ h w (show lv_has ls 4 [(0, .ref (B + th)), (1, .int (v1 + o4)), (2, .int 1), (3, .int (v3 + 1))] from lv_sub hl [3, 2, 1, 0] rfl)
  have h := h0
  unfold F_X8_isWhole at h
  refine lv_aload_n C.1 C.2.1 dX8_isWhole_0 rfl (lv_at hl 0 rfl) ?_
  refine lv_iconst (v := 0) C.1 C.2.1 dX8_isWhole_1 (by decide) ?_
  refine g_putI C w fw_X8_71 sth kth (by decide) (fun _ _ _ => rfl) rfl rfl dX8_isWhole_2 (fun H locs w => ?_)
  refine lv_iconst (v := 0) C.1 C.2.1 dX8_isWhole_5 (by decide) ?_
  refine lv_istore_n (lv' := [(1, .int 0), (0, .ref (B + th))]) C.1 C.2.1 dX8_isWhole_6 rfl hl (by decide) rfl (fun ls hl => ?_)
  refine lv_iconst (v := 1) C.1 C.2.1 dX8_isWhole_7 (by decide) ?_
  refine lv_istore_n (lv' := [(2, .int 1), (1, .int 0), (0, .ref (B + th))]) C.1 C.2.1 dX8_isWhole_8 rfl hl (by decide) rfl (fun ls hl => ?_)
  refine lv_iconst (v := 0) C.1 C.2.1 dX8_isWhole_9 (by decide) ?_
  refine lv_istore_n (lv' := [(3, .int 0), (2, .int 1), (1, .int 0), (0, .ref (B + th))]) C.1 C.2.1 dX8_isWhole_10 rfl hl (by decide) rfl (fun ls hl => ?_)
  exact B_11 _ _ _ _ _ _ _ _ h w (show lv_has ls 4 [(0, .ref (B + th)), (1, .int 0), (2, .int 1), (3, .int 0)] from lv_sub hl [3, 2, 1, 0] rfl)

set_option maxHeartbeats 4000000 in
set_option maxRecDepth 100000 in
theorem m_X8_account {l : Launch} {D : va_G} {cA : Nat → ClassId} {B : Nat} {S : Nat → Prop} {σ : GS} {th : Nat} {a1 : Int32} {o : GS × Int32} (sth : S th) (kth : kdG th = 8) (h0 : F_X8_account σ th a1 = some o) : MF l yX8_account cX8_account 2 (some .int) 1 22 D cA B S [.ref (B + th), .int a1] σ o.1 (some (.int o.2)) := by
  refine MF.of (by decide +kernel) (Nat.le_of_ble_eq_true rfl) ?_
  intro p e s m args below meth c C hr w ls hl
  have hl : lv_has ls 2 [(0, .ref (B + th)), (1, .int a1)] := hl
  have B_20 : ∀ (σ : GS) (u0 : Int32) (H : Heap) (locs : List Loc) (ls : Array Slot), J_X8_account_20 th a1 σ u0 = some o → WS D cA B S σ s H locs → lv_has ls 2 [(0, .ref (B + th)), (1, .int a1)] → W p l e (rmF 1 22) s m args below meth c H locs 0 0 (MQ below (QF D cA B S o.1 (some (.int o.2))) args s 0 0 (AB B S)) (F0 m 20 ls [.int u0, .ref (B + th)]) := by
    intro σ u0 H locs ls h  w hl
    unfold J_X8_account_20 at h
    refine lv_iconst (v := 1) C.1 C.2.1 dX8_account_20 (by decide) ?_
    obtain ⟨o3, ho3, h⟩ := g_bd h
    refine g_callV (n := 2) (As := [.int u0, .int 1]) (rest := []) C w (m_X8_throwsIf sth kth ho3) (cl_8).1 sth kth (by decide) ml_X8_194 iy_X8_throwsIf sy_X8_throwsIf in_X8 cy_X8_throwsIf ⟨rfl, by decide +kernel, by decide +kernel, by decide +kernel⟩ rfl ⟨Nat.le_of_ble_eq_true rfl, Nat.le_of_ble_eq_true rfl⟩ rfl (Nat.le_of_ble_eq_true rfl) hl.1 ⟨Nat.le_of_ble_eq_true rfl, Nat.le_of_ble_eq_true rfl⟩ dX8_account_21 (fun H locs w => ?_)
    refine lv_if_eq (tgt := 31) C.1 C.2.1 dX8_account_24 (by decide) (fun hc => ?_) (fun hc => ?_)
    · have h := (if_pos hc).symm.trans h
      refine lv_aload_n C.1 C.2.1 dX8_account_31 rfl (lv_at hl 0 rfl) ?_
      refine g_getR C w fl_X8_17 sth kth (by decide) kt_8_3 (fun _ _ _ => rfl) dX8_account_32 (fun s4 k4 => ?_)
      refine lv_bipush (v := 9) C.1 C.2.1 dX8_account_35 (by decide) ?_
      refine lv_iload_n C.1 C.2.1 dX8_account_37 rfl (lv_at hl 1 rfl) ?_
      refine lv_iadd C.1 C.2.1 dX8_account_38 ?_
      obtain ⟨hb, h⟩ := g_ob h
      refine g_iald C w s4 k4 hb dX8_account_39 ?_
      exact g_iretB C w hr dX8_account_40 h
    · have h := (if_neg hc).symm.trans h
      refine lv_iconst (v := 0) C.1 C.2.1 dX8_account_27 (by decide) ?_
      refine lv_goto (tgt := 40) C.1 C.2.1 dX8_account_28 (by decide) ?_
      exact g_iretB C w hr dX8_account_40 h
  have h := h0
  unfold F_X8_account at h
  refine lv_aload_n C.1 C.2.1 dX8_account_0 rfl (lv_at hl 0 rfl) ?_
  refine lv_iconst (v := 0) C.1 C.2.1 dX8_account_1 (by decide) ?_
  refine g_putI C w fw_X8_71 sth kth (by decide) (fun _ _ _ => rfl) rfl rfl dX8_account_2 (fun H locs w => ?_)
  refine lv_aload_n C.1 C.2.1 dX8_account_5 rfl (lv_at hl 0 rfl) ?_
  refine lv_iload_n C.1 C.2.1 dX8_account_6 rfl (lv_at hl 1 rfl) ?_
  refine lv_iconst (v := 0) C.1 C.2.1 dX8_account_7 (by decide) ?_
  refine lv_iconst (v := 3) C.1 C.2.1 dX8_account_8 (by decide) ?_
  obtain ⟨o2, ho2, h⟩ := g_bd h
  refine g_callS (n := 3) (As := [.int a1, .int 0, .int 3]) (rest := [.ref (B + th)]) C w (m_X8_within ho2) ml_X8_95 iy_X8_within in_X8 cy_X8_within ⟨by decide +kernel, by decide +kernel, by decide +kernel⟩ rfl ⟨Nat.le_of_ble_eq_true rfl, Nat.le_of_ble_eq_true rfl⟩ rfl (Nat.le_of_ble_eq_true rfl) hl.1 ⟨Nat.le_of_ble_eq_true rfl, Nat.le_of_ble_eq_true rfl⟩ dX8_account_9 (fun H locs w => ?_)
  refine lv_if_ne (tgt := 19) C.1 C.2.1 dX8_account_12 (by decide) (fun hc => ?_) (fun hc => ?_)
  · have h := (if_neg hc).symm.trans h
    refine lv_iconst (v := 0) C.1 C.2.1 dX8_account_19 (by decide) ?_
    exact B_20 _ _ _ _ _ h w (show lv_has ls 2 [(0, .ref (B + th)), (1, .int a1)] from lv_sub hl [0, 1] rfl)
  · have h := (if_pos hc).symm.trans h
    refine lv_iconst (v := 1) C.1 C.2.1 dX8_account_15 (by decide) ?_
    refine lv_goto (tgt := 20) C.1 C.2.1 dX8_account_16 (by decide) ?_
    exact B_20 _ _ _ _ _ h w (show lv_has ls 2 [(0, .ref (B + th)), (1, .int a1)] from lv_sub hl [0, 1] rfl)

set_option maxHeartbeats 4000000 in
set_option maxRecDepth 100000 in
theorem m_X8_copies {l : Launch} {D : va_G} {cA : Nat → ClassId} {B : Nat} {S : Nat → Prop} {σ : GS} {a1 : Nat} {a2 : Int32} {a3 : Nat} {a4 : Int32} {o : GS} (sa1 : S a1) (ka1 : kdG a1 = 10) (sa3 : S a3) (ka3 : kdG a3 = 10) (h0 : F_X8_copies σ a1 a2 a3 a4 = some o) : MF l yX8_copies cX8_copies 5 none 0 0 D cA B S [.ref (B + a1), .int a2, .ref (B + a3), .int a4] σ o none := by
  refine MF.of (by decide +kernel) (Nat.le_of_ble_eq_true rfl) ?_
  intro p e s m args below meth c C hr w ls hl
  have hl : lv_has ls 5 [(0, .ref (B + a1)), (1, .int a2), (2, .ref (B + a3)), (3, .int a4)] := hl
  have B_3 : ∀ (n3 : Nat) (σ : GS) (v4 : Int32) (H : Heap) (locs : List Loc) (ls : Array Slot), L_X8_copies_3 a1 a2 a3 a4 n3 σ v4 = some o → WS D cA B S σ s H locs → lv_has ls 5 [(0, .ref (B + a1)), (1, .int a2), (2, .ref (B + a3)), (3, .int a4), (4, .int v4)] → W p l e (rmF 0 0) s m args below meth c H locs 0 0 (MQ below (QF D cA B S o none) args s 0 0 (AB B S)) (F0 m 3 ls []) := by
    intro n3
    induction n3 with
    | zero => intro σ v4 H locs ls h; exact nomatch (show (none : Option (GS)) = some o from h)
    | succ n3 ih3 =>
      intro σ v4 H locs ls h  w hl
      unfold L_X8_copies_3 at h
      refine lv_iload C.1 C.2.1 dX8_copies_3 (lv_at hl 4 rfl) ?_
      refine lv_sipush (v := 437) C.1 C.2.1 dX8_copies_5 (by decide) ?_
      refine lv_icmp_ge (tgt := 29) C.1 C.2.1 dX8_copies_8 (by decide) (fun hc => ?_) (fun hc => ?_)
      · have h := (if_pos hc).symm.trans h
        exact g_vretV C w hr dX8_copies_29 h
      · have h := (if_neg hc).symm.trans h
        refine lv_aload_n C.1 C.2.1 dX8_copies_11 rfl (lv_at hl 2 rfl) ?_
        refine lv_iload_n C.1 C.2.1 dX8_copies_12 rfl (lv_at hl 3 rfl) ?_
        refine lv_iload C.1 C.2.1 dX8_copies_13 (lv_at hl 4 rfl) ?_
        refine lv_iadd C.1 C.2.1 dX8_copies_15 ?_
        refine lv_aload_n C.1 C.2.1 dX8_copies_16 rfl (lv_at hl 0 rfl) ?_
        refine lv_iload_n C.1 C.2.1 dX8_copies_17 rfl (lv_at hl 1 rfl) ?_
        refine lv_iload C.1 C.2.1 dX8_copies_18 (lv_at hl 4 rfl) ?_
        refine lv_iadd C.1 C.2.1 dX8_copies_20 ?_
        obtain ⟨hb, h⟩ := g_ob h
        refine g_iald C w sa1 ka1 hb dX8_copies_21 ?_
        obtain ⟨hb, h⟩ := g_ob h
        refine g_iast C w sa3 ka3 hb dX8_copies_22 (fun H locs w => ?_)
        refine lv_iinc (k := 4) (v := v4 + 1) (lv' := [(4, .int (v4 + 1)), (0, .ref (B + a1)), (1, .int a2), (2, .ref (B + a3)), (3, .int a4)]) C.1 C.2.1 dX8_copies_23 hl rfl rfl (by decide) rfl (fun ls hl => ?_)
        refine lv_goto (tgt := 3) C.1 C.2.1 dX8_copies_26 (by decide) ?_
        exact ih3 _ _ _ _ _ h w (show lv_has ls 5 [(0, .ref (B + a1)), (1, .int a2), (2, .ref (B + a3)), (3, .int a4), (4, .int (v4 + 1))] from lv_sub hl [1, 2, 3, 4, 0] rfl)
  have h := h0
  unfold F_X8_copies at h
  refine lv_iconst (v := 0) C.1 C.2.1 dX8_copies_0 (by decide) ?_
  refine lv_istore (lv' := [(4, .int 0), (0, .ref (B + a1)), (1, .int a2), (2, .ref (B + a3)), (3, .int a4)]) C.1 C.2.1 dX8_copies_1 hl (by decide) rfl (fun ls hl => ?_)
  exact B_3 _ _ _ _ _ _ h w (show lv_has ls 5 [(0, .ref (B + a1)), (1, .int a2), (2, .ref (B + a3)), (3, .int a4), (4, .int 0)] from lv_sub hl [1, 2, 3, 4, 0] rfl)

