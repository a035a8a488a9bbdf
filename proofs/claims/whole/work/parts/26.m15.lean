set_option maxHeartbeats 4000000 in
set_option maxRecDepth 100000 in
theorem m_X4_readLink {l : Launch} {D : va_G} {cA : Nat → ClassId} {B : Nat} {S : Nat → Prop} {σ : GS} {th : Nat} {o : GS} (sth : S th) (kth : kdG th = 4) (h0 : F_X4_readLink σ th = some o) : MF l yX4_readLink cX4_readLink 3 none 7 150 D cA B S [.ref (B + th)] σ o none := by
  refine MF.of (by decide +kernel) (Nat.le_of_ble_eq_true rfl) ?_
  intro p e s m args below meth c C hr w ls hl
  have hl : lv_has ls 3 [(0, .ref (B + th))] := hl
  have B_17 : ∀ (σ : GS) (H : Heap) (locs : List Loc) (ls : Array Slot), J_X4_readLink_17 th σ = some o → WS D cA B S σ s H locs → lv_has ls 3 [(0, .ref (B + th))] → W p l e (rmF 7 150) s m args below meth c H locs 0 0 (MQ below (QF D cA B S o none) args s 0 0 (AB B S)) (F0 m 17 ls []) := by
    intro σ H locs ls h  w hl
    unfold J_X4_readLink_17 at h
    refine lv_aload_n C.1 C.2.1 dX4_readLink_17 rfl (lv_at hl 0 rfl) ?_
    refine g_ldcS (t := 1) C w rfl ⟨rfl, rfl⟩ dX4_readLink_18 ?_
    obtain ⟨o3, ho3, h⟩ := g_bd h
    refine g_callV (n := 1) (As := [.ref (D.2 100 1)]) (rest := []) C w (m_X4_takeWord sth kth (by decide) ho3) (cl_4).1 sth kth (by decide) ml_X4_69 iy_X4_takeWord sy_X4_takeWord in_X4 cy_X4_takeWord ⟨rfl, by decide +kernel, by decide +kernel, by decide +kernel⟩ rfl ⟨Nat.le_of_ble_eq_true rfl, Nat.le_of_ble_eq_true rfl⟩ rfl (Nat.le_of_ble_eq_true rfl) hl.1 ⟨Nat.le_of_ble_eq_true rfl, Nat.le_of_ble_eq_true rfl⟩ dX4_readLink_20 (fun H locs w => ?_)
    refine lv_aload_n C.1 C.2.1 dX4_readLink_23 rfl (lv_at hl 0 rfl) ?_
    refine lv_iconst (v := 1) C.1 C.2.1 dX4_readLink_24 (by decide) ?_
    refine lv_sipush (v := 200) C.1 C.2.1 dX4_readLink_25 (by decide) ?_
    obtain ⟨o4, ho4, h⟩ := g_bd h
    refine g_callV (n := 2) (As := [.int 1, .int 200]) (rest := []) C w (m_X4_takeNumber sth kth ho4) (cl_4).1 sth kth (by decide) ml_X4_73 iy_X4_takeNumber sy_X4_takeNumber in_X4 cy_X4_takeNumber ⟨rfl, by decide +kernel, by decide +kernel, by decide +kernel⟩ rfl ⟨Nat.le_of_ble_eq_true rfl, Nat.le_of_ble_eq_true rfl⟩ rfl (Nat.le_of_ble_eq_true rfl) hl.1 ⟨Nat.le_of_ble_eq_true rfl, Nat.le_of_ble_eq_true rfl⟩ dX4_readLink_28 (fun H locs w => ?_)
    refine lv_istore_n (lv' := [(1, .int o4.2), (0, .ref (B + th))]) C.1 C.2.1 dX4_readLink_31 rfl hl (by decide) rfl (fun ls hl => ?_)
    refine lv_aload_n C.1 C.2.1 dX4_readLink_32 rfl (lv_at hl 1 rfl) ?_
    refine lv_iconst (v := 0) C.1 C.2.1 dX4_readLink_33 (by decide) ?_
    refine lv_sipush (v := 9999) C.1 C.2.1 dX4_readLink_34 (by decide) ?_
    obtain ⟨o5, ho5, h⟩ := g_bd h
    refine g_callV (n := 2) (As := [.int 0, .int 9999]) (rest := []) C w (m_X4_takeNumber sth kth ho5) (cl_4).1 sth kth (by decide) ml_X4_73 iy_X4_takeNumber sy_X4_takeNumber in_X4 cy_X4_takeNumber ⟨rfl, by decide +kernel, by decide +kernel, by decide +kernel⟩ rfl ⟨Nat.le_of_ble_eq_true rfl, Nat.le_of_ble_eq_true rfl⟩ rfl (Nat.le_of_ble_eq_true rfl) hl.1 ⟨Nat.le_of_ble_eq_true rfl, Nat.le_of_ble_eq_true rfl⟩ dX4_readLink_37 (fun H locs w => ?_)
    refine lv_istore_n (lv' := [(2, .int o5.2), (1, .int o4.2), (0, .ref (B + th))]) C.1 C.2.1 dX4_readLink_40 rfl hl (by decide) rfl (fun ls hl => ?_)
    refine lv_aload_n C.1 C.2.1 dX4_readLink_41 rfl (lv_at hl 2 rfl) ?_
    refine g_getI C w fl_X4_32 sth kth (by decide) (fun _ _ _ => rfl) dX4_readLink_42 ?_
    refine lv_if_ne (tgt := 57) C.1 C.2.1 dX4_readLink_45 (by decide) (fun hc => ?_) (fun hc => ?_)
    · have h := (if_neg hc).symm.trans h
      exact g_vretV C w hr dX4_readLink_57 h
    · have h := (if_pos hc).symm.trans h
      refine lv_aload_n C.1 C.2.1 dX4_readLink_48 rfl (lv_at hl 2 rfl) ?_
      refine g_getR C w fl_X4_12 sth kth (by decide) kt_4_0 (fun _ _ _ => rfl) dX4_readLink_49 (fun s6 k6 => ?_)
      refine lv_iload_n C.1 C.2.1 dX4_readLink_52 rfl (lv_at hl 1 rfl) ?_
      refine lv_iload_n C.1 C.2.1 dX4_readLink_53 rfl (lv_at hl 0 rfl) ?_
      obtain ⟨o7, ho7, h⟩ := g_bd h
      refine g_callV (n := 2) (As := [.int o4.2, .int o5.2]) (rest := []) C w (m_X1_addPiece s6 k6 ho7) (cl_1).1 s6 k6 (by decide) ml_X4_121 iy_X1_addPiece sy_X1_addPiece in_X1 cy_X1_addPiece ⟨rfl, by decide +kernel, by decide +kernel, by decide +kernel⟩ rfl ⟨Nat.le_of_ble_eq_true rfl, Nat.le_of_ble_eq_true rfl⟩ rfl (Nat.le_of_ble_eq_true rfl) hl.1 ⟨Nat.le_of_ble_eq_true rfl, Nat.le_of_ble_eq_true rfl⟩ dX4_readLink_54 (fun H locs w => ?_)
      exact g_vretV C w hr dX4_readLink_57 h
  have h := h0
  unfold F_X4_readLink at h
  refine lv_aload_n C.1 C.2.1 dX4_readLink_0 rfl (lv_at hl 0 rfl) ?_
  refine g_getR C w fl_X4_12 sth kth (by decide) kt_4_0 (fun _ _ _ => rfl) dX4_readLink_1 (fun s1 k1 => ?_)
  refine g_getI C w fl_X4_118 s1 k1 (by decide) (fun _ _ _ => rfl) dX4_readLink_4 ?_
  refine lv_bipush (v := 8) C.1 C.2.1 dX4_readLink_7 (by decide) ?_
  refine lv_icmp_lt (tgt := 17) C.1 C.2.1 dX4_readLink_9 (by decide) (fun hc => ?_) (fun hc => ?_)
  · have h := (if_pos hc).symm.trans h
    exact B_17 _ _ _ _ h w (show lv_has ls 3 [(0, .ref (B + th))] from lv_sub hl [0] rfl)
  · have h := (if_neg hc).symm.trans h
    refine lv_aload_n C.1 C.2.1 dX4_readLink_12 rfl (lv_at hl 0 rfl) ?_
    refine lv_iconst (v := 5) C.1 C.2.1 dX4_readLink_13 (by decide) ?_
    obtain ⟨o2, ho2, h⟩ := g_bd h
    refine g_callV (n := 1) (As := [.int 5]) (rest := []) C w (m_X4_fail sth kth ho2) (cl_4).1 sth kth (by decide) ml_X4_114 iy_X4_fail sy_X4_fail in_X4 cy_X4_fail ⟨rfl, by decide +kernel, by decide +kernel, by decide +kernel⟩ rfl ⟨Nat.le_of_ble_eq_true rfl, Nat.le_of_ble_eq_true rfl⟩ rfl (Nat.le_of_ble_eq_true rfl) hl.1 ⟨Nat.le_of_ble_eq_true rfl, Nat.le_of_ble_eq_true rfl⟩ dX4_readLink_14 (fun H locs w => ?_)
    exact B_17 _ _ _ _ h w (show lv_has ls 3 [(0, .ref (B + th))] from lv_sub hl [0] rfl)

set_option maxHeartbeats 4000000 in
set_option maxRecDepth 100000 in
theorem m_X4_readVary {l : Launch} {D : va_G} {cA : Nat → ClassId} {B : Nat} {S : Nat → Prop} {σ : GS} {th : Nat} {o : GS} (sth : S th) (kth : kdG th = 4) (h0 : F_X4_readVary σ th = some o) : MF l yX4_readVary cX4_readVary 2 none 7 150 D cA B S [.ref (B + th)] σ o none := by
  refine MF.of (by decide +kernel) (Nat.le_of_ble_eq_true rfl) ?_
  intro p e s m args below meth c C hr w ls hl
  have hl : lv_has ls 2 [(0, .ref (B + th))] := hl
  have B_23 : ∀ (n23 : Nat) (σ : GS) (v1 : Int32) (H : Heap) (locs : List Loc) (ls : Array Slot), L_X4_readVary_23 th n23 σ v1 = some o → WS D cA B S σ s H locs → lv_has ls 2 [(0, .ref (B + th)), (1, .int v1)] → W p l e (rmF 7 150) s m args below meth c H locs 0 0 (MQ below (QF D cA B S o none) args s 0 0 (AB B S)) (F0 m 23 ls []) := by
    intro n23
    induction n23 with
    | zero => intro σ v1 H locs ls h; exact nomatch (show (none : Option (GS)) = some o from h)
    | succ n23 ih23 =>
      have B_66 : ∀ (σ : GS) (v1 : Int32) (H : Heap) (locs : List Loc) (ls : Array Slot), J_X4_readVary_66 (L_X4_readVary_23 th n23) th σ v1 = some o → WS D cA B S σ s H locs → lv_has ls 2 [(0, .ref (B + th)), (1, .int v1)] → W p l e (rmF 7 150) s m args below meth c H locs 0 0 (MQ below (QF D cA B S o none) args s 0 0 (AB B S)) (F0 m 66 ls []) := by
        intro σ v1 H locs ls h  w hl
        unfold J_X4_readVary_66 at h
        refine lv_aload_n C.1 C.2.1 dX4_readVary_66 rfl (lv_at hl 0 rfl) ?_
        refine g_getI C w fl_X4_32 sth kth (by decide) (fun _ _ _ => rfl) dX4_readVary_67 ?_
        refine lv_if_ne (tgt := 88) C.1 C.2.1 dX4_readVary_70 (by decide) (fun hc => ?_) (fun hc => ?_)
        · have h := (if_neg hc).symm.trans h
          refine lv_iinc (k := 1) (v := v1 + 1) (lv' := [(1, .int (v1 + 1)), (0, .ref (B + th))]) C.1 C.2.1 dX4_readVary_88 hl rfl rfl (by decide) rfl (fun ls hl => ?_)
          refine lv_goto (tgt := 23) C.1 C.2.1 dX4_readVary_91 (by decide) ?_
          exact ih23 _ _ _ _ _ h w (show lv_has ls 2 [(0, .ref (B + th)), (1, .int (v1 + 1))] from lv_sub hl [1, 0] rfl)
        · have h := (if_pos hc).symm.trans h
          refine lv_aload_n C.1 C.2.1 dX4_readVary_73 rfl (lv_at hl 0 rfl) ?_
          refine g_getR C w fl_X4_12 sth kth (by decide) kt_4_0 (fun _ _ _ => rfl) dX4_readVary_74 (fun s7 k7 => ?_)
          refine lv_aload_n C.1 C.2.1 dX4_readVary_77 rfl (lv_at hl 0 rfl) ?_
          refine g_getI C w fl_X4_131 sth kth (by decide) (fun _ _ _ => rfl) dX4_readVary_78 ?_
          obtain ⟨o8, ho8, h⟩ := g_bd h
          refine g_callV (n := 1) (As := [.int (gI σ th 9)]) (rest := []) C w (m_X1_addPercent s7 k7 ho8) (cl_1).1 s7 k7 (by decide) ml_X4_134 iy_X1_addPercent sy_X1_addPercent in_X1 cy_X1_addPercent ⟨rfl, by decide +kernel, by decide +kernel, by decide +kernel⟩ rfl ⟨Nat.le_of_ble_eq_true rfl, Nat.le_of_ble_eq_true rfl⟩ rfl (Nat.le_of_ble_eq_true rfl) hl.1 ⟨Nat.le_of_ble_eq_true rfl, Nat.le_of_ble_eq_true rfl⟩ dX4_readVary_81 (fun H locs w => ?_)
          refine lv_aload_n C.1 C.2.1 dX4_readVary_84 rfl (lv_at hl 0 rfl) ?_
          obtain ⟨o9, ho9, h⟩ := g_bd h
          refine g_callV (n := 0) (As := []) (rest := []) C w (m_X4_readToken sth kth ho9) (cl_4).1 sth kth (by decide) ml_X4_41 iy_X4_readToken sy_X4_readToken in_X4 cy_X4_readToken ⟨rfl, by decide +kernel, by decide +kernel, by decide +kernel⟩ rfl ⟨Nat.le_of_ble_eq_true rfl, Nat.le_of_ble_eq_true rfl⟩ rfl (Nat.le_of_ble_eq_true rfl) hl.1 ⟨Nat.le_of_ble_eq_true rfl, Nat.le_of_ble_eq_true rfl⟩ dX4_readVary_85 (fun H locs w => ?_)
          refine lv_iinc (k := 1) (v := v1 + 1) (lv' := [(1, .int (v1 + 1)), (0, .ref (B + th))]) C.1 C.2.1 dX4_readVary_88 hl rfl rfl (by decide) rfl (fun ls hl => ?_)
          refine lv_goto (tgt := 23) C.1 C.2.1 dX4_readVary_91 (by decide) ?_
          exact ih23 _ _ _ _ _ h w (show lv_has ls 2 [(0, .ref (B + th)), (1, .int (v1 + 1))] from lv_sub hl [1, 0] rfl)
      have B_47 : ∀ (σ : GS) (v1 : Int32) (H : Heap) (locs : List Loc) (ls : Array Slot), J_X4_readVary_47 (L_X4_readVary_23 th n23) th σ v1 = some o → WS D cA B S σ s H locs → lv_has ls 2 [(0, .ref (B + th)), (1, .int v1)] → W p l e (rmF 7 150) s m args below meth c H locs 0 0 (MQ below (QF D cA B S o none) args s 0 0 (AB B S)) (F0 m 47 ls []) := by
        intro σ v1 H locs ls h  w hl
        unfold J_X4_readVary_47 at h
        refine lv_aload_n C.1 C.2.1 dX4_readVary_47 rfl (lv_at hl 0 rfl) ?_
        refine lv_bipush (v := 50) C.1 C.2.1 dX4_readVary_48 (by decide) ?_
        refine lv_sipush (v := 200) C.1 C.2.1 dX4_readVary_50 (by decide) ?_
        obtain ⟨o5, ho5, h⟩ := g_bd h
        refine g_callV (n := 2) (As := [.int 50, .int 200]) (rest := []) C w (m_X4_testNumber sth kth ho5) (cl_4).1 sth kth (by decide) ml_X4_128 iy_X4_testNumber sy_X4_testNumber in_X4 cy_X4_testNumber ⟨rfl, by decide +kernel, by decide +kernel, by decide +kernel⟩ rfl ⟨Nat.le_of_ble_eq_true rfl, Nat.le_of_ble_eq_true rfl⟩ rfl (Nat.le_of_ble_eq_true rfl) hl.1 ⟨Nat.le_of_ble_eq_true rfl, Nat.le_of_ble_eq_true rfl⟩ dX4_readVary_53 (fun H locs w => ?_)
        refine lv_iload_n C.1 C.2.1 dX4_readVary_56 rfl (lv_at hl 1 rfl) ?_
        refine lv_iconst (v := 4) C.1 C.2.1 dX4_readVary_57 (by decide) ?_
        refine lv_icmp_ne (tgt := 66) C.1 C.2.1 dX4_readVary_58 (by decide) (fun hc => ?_) (fun hc => ?_)
        · have h := (if_neg hc).symm.trans h
          exact B_66 _ _ _ _ _ h w (show lv_has ls 2 [(0, .ref (B + th)), (1, .int v1)] from lv_sub hl [0, 1] rfl)
        · have h := (if_pos hc).symm.trans h
          refine lv_aload_n C.1 C.2.1 dX4_readVary_61 rfl (lv_at hl 0 rfl) ?_
          refine lv_iconst (v := 5) C.1 C.2.1 dX4_readVary_62 (by decide) ?_
          obtain ⟨o6, ho6, h⟩ := g_bd h
          refine g_callV (n := 1) (As := [.int 5]) (rest := []) C w (m_X4_fail sth kth ho6) (cl_4).1 sth kth (by decide) ml_X4_114 iy_X4_fail sy_X4_fail in_X4 cy_X4_fail ⟨rfl, by decide +kernel, by decide +kernel, by decide +kernel⟩ rfl ⟨Nat.le_of_ble_eq_true rfl, Nat.le_of_ble_eq_true rfl⟩ rfl (Nat.le_of_ble_eq_true rfl) hl.1 ⟨Nat.le_of_ble_eq_true rfl, Nat.le_of_ble_eq_true rfl⟩ dX4_readVary_63 (fun H locs w => ?_)
          exact B_66 _ _ _ _ _ h w (show lv_has ls 2 [(0, .ref (B + th)), (1, .int v1)] from lv_sub hl [0, 1] rfl)
      intro σ v1 H locs ls h  w hl
      unfold L_X4_readVary_23 at h
      refine lv_iload_n C.1 C.2.1 dX4_readVary_23 rfl (lv_at hl 1 rfl) ?_
      refine lv_iconst (v := 4) C.1 C.2.1 dX4_readVary_24 (by decide) ?_
      refine lv_icmp_gt (tgt := 94) C.1 C.2.1 dX4_readVary_25 (by decide) (fun hc => ?_) (fun hc => ?_)
      · have h := (if_pos hc).symm.trans h
        exact g_vretV C w hr dX4_readVary_94 h
      · have h := (if_neg hc).symm.trans h
        refine lv_aload_n C.1 C.2.1 dX4_readVary_28 rfl (lv_at hl 0 rfl) ?_
        refine g_getI C w fl_X4_32 sth kth (by decide) (fun _ _ _ => rfl) dX4_readVary_29 ?_
        refine lv_if_ne (tgt := 94) C.1 C.2.1 dX4_readVary_32 (by decide) (fun hc => ?_) (fun hc => ?_)
        · have h := (if_neg hc).symm.trans h
          exact g_vretV C w hr dX4_readVary_94 h
        · have h := (if_pos hc).symm.trans h
          refine lv_iload_n C.1 C.2.1 dX4_readVary_35 rfl (lv_at hl 1 rfl) ?_
          refine lv_if_eq (tgt := 47) C.1 C.2.1 dX4_readVary_36 (by decide) (fun hc => ?_) (fun hc => ?_)
          · have h := (if_pos hc).symm.trans h
            exact B_47 _ _ _ _ _ h w (show lv_has ls 2 [(0, .ref (B + th)), (1, .int v1)] from lv_sub hl [0, 1] rfl)
          · have h := (if_neg hc).symm.trans h
            refine lv_aload_n C.1 C.2.1 dX4_readVary_39 rfl (lv_at hl 0 rfl) ?_
            refine g_getI C w fl_X4_47 sth kth (by decide) (fun _ _ _ => rfl) dX4_readVary_40 ?_
            refine lv_iconst (v := 2) C.1 C.2.1 dX4_readVary_43 (by decide) ?_
            refine lv_icmp_ne (tgt := 94) C.1 C.2.1 dX4_readVary_44 (by decide) (fun hc => ?_) (fun hc => ?_)
            · have h := (if_neg hc).symm.trans h
              exact g_vretV C w hr dX4_readVary_94 h
            · have h := (if_pos hc).symm.trans h
              exact B_47 _ _ _ _ _ h w (show lv_has ls 2 [(0, .ref (B + th)), (1, .int v1)] from lv_sub hl [0, 1] rfl)
  have h := h0
  unfold F_X4_readVary at h
  refine lv_aload_n C.1 C.2.1 dX4_readVary_0 rfl (lv_at hl 0 rfl) ?_
  refine g_getR C w fl_X4_12 sth kth (by decide) kt_4_0 (fun _ _ _ => rfl) dX4_readVary_1 (fun s1 k1 => ?_)
  refine g_getI C w fl_X4_125 s1 k1 (by decide) (fun _ _ _ => rfl) dX4_readVary_4 ?_
  refine lv_if_le (tgt := 15) C.1 C.2.1 dX4_readVary_7 (by decide) (fun hc => ?_) (fun hc => ?_)
  · have h := (if_pos hc).symm.trans h
    refine lv_aload_n C.1 C.2.1 dX4_readVary_15 rfl (lv_at hl 0 rfl) ?_
    refine g_ldcS (t := 2) C w rfl ⟨rfl, rfl⟩ dX4_readVary_16 ?_
    obtain ⟨o2, ho2, h⟩ := g_bd h
    refine g_callV (n := 1) (As := [.ref (D.2 100 2)]) (rest := []) C w (m_X4_takeWord sth kth (by decide) ho2) (cl_4).1 sth kth (by decide) ml_X4_69 iy_X4_takeWord sy_X4_takeWord in_X4 cy_X4_takeWord ⟨rfl, by decide +kernel, by decide +kernel, by decide +kernel⟩ rfl ⟨Nat.le_of_ble_eq_true rfl, Nat.le_of_ble_eq_true rfl⟩ rfl (Nat.le_of_ble_eq_true rfl) hl.1 ⟨Nat.le_of_ble_eq_true rfl, Nat.le_of_ble_eq_true rfl⟩ dX4_readVary_18 (fun H locs w => ?_)
    refine lv_iconst (v := 0) C.1 C.2.1 dX4_readVary_21 (by decide) ?_
    refine lv_istore_n (lv' := [(1, .int 0), (0, .ref (B + th))]) C.1 C.2.1 dX4_readVary_22 rfl hl (by decide) rfl (fun ls hl => ?_)
    exact B_23 _ _ _ _ _ _ h w (show lv_has ls 2 [(0, .ref (B + th)), (1, .int 0)] from lv_sub hl [1, 0] rfl)
  · have h := (if_neg hc).symm.trans h
    refine lv_aload_n C.1 C.2.1 dX4_readVary_10 rfl (lv_at hl 0 rfl) ?_
    refine lv_iconst (v := 2) C.1 C.2.1 dX4_readVary_11 (by decide) ?_
    obtain ⟨o3, ho3, h⟩ := g_bd h
    refine g_callV (n := 1) (As := [.int 2]) (rest := []) C w (m_X4_fail sth kth ho3) (cl_4).1 sth kth (by decide) ml_X4_114 iy_X4_fail sy_X4_fail in_X4 cy_X4_fail ⟨rfl, by decide +kernel, by decide +kernel, by decide +kernel⟩ rfl ⟨Nat.le_of_ble_eq_true rfl, Nat.le_of_ble_eq_true rfl⟩ rfl (Nat.le_of_ble_eq_true rfl) hl.1 ⟨Nat.le_of_ble_eq_true rfl, Nat.le_of_ble_eq_true rfl⟩ dX4_readVary_12 (fun H locs w => ?_)
    refine lv_aload_n C.1 C.2.1 dX4_readVary_15 rfl (lv_at hl 0 rfl) ?_
    refine g_ldcS (t := 2) C w rfl ⟨rfl, rfl⟩ dX4_readVary_16 ?_
    obtain ⟨o4, ho4, h⟩ := g_bd h
    refine g_callV (n := 1) (As := [.ref (D.2 100 2)]) (rest := []) C w (m_X4_takeWord sth kth (by decide) ho4) (cl_4).1 sth kth (by decide) ml_X4_69 iy_X4_takeWord sy_X4_takeWord in_X4 cy_X4_takeWord ⟨rfl, by decide +kernel, by decide +kernel, by decide +kernel⟩ rfl ⟨Nat.le_of_ble_eq_true rfl, Nat.le_of_ble_eq_true rfl⟩ rfl (Nat.le_of_ble_eq_true rfl) hl.1 ⟨Nat.le_of_ble_eq_true rfl, Nat.le_of_ble_eq_true rfl⟩ dX4_readVary_18 (fun H locs w => ?_)
    refine lv_iconst (v := 0) C.1 C.2.1 dX4_readVary_21 (by decide) ?_
    refine lv_istore_n (lv' := [(1, .int 0), (0, .ref (B + th))]) C.1 C.2.1 dX4_readVary_22 rfl hl (by decide) rfl (fun ls hl => ?_)
    exact B_23 _ _ _ _ _ _ h w (show lv_has ls 2 [(0, .ref (B + th)), (1, .int 0)] from lv_sub hl [1, 0] rfl)

set_option maxHeartbeats 4000000 in
set_option maxRecDepth 100000 in
theorem m_X4_readJoin {l : Launch} {D : va_G} {cA : Nat → ClassId} {B : Nat} {S : Nat → Prop} {σ : GS} {th : Nat} {o : GS} (sth : S th) (kth : kdG th = 4) (h0 : F_X4_readJoin σ th = some o) : MF l yX4_readJoin cX4_readJoin 3 none 7 150 D cA B S [.ref (B + th)] σ o none := by
  refine MF.of (by decide +kernel) (Nat.le_of_ble_eq_true rfl) ?_
  intro p e s m args below meth c C hr w ls hl
  have hl : lv_has ls 3 [(0, .ref (B + th))] := hl
  have B_75 : ∀ (σ : GS) (v2 : Nat) (H : Heap) (locs : List Loc) (ls : Array Slot), J_X4_readJoin_75 th σ v2 = some o → S v2 → kdG v2 = 6 → WS D cA B S σ s H locs → lv_has ls 3 [(0, .ref (B + th)), (2, .ref (B + v2))] → W p l e (rmF 7 150) s m args below meth c H locs 0 0 (MQ below (QF D cA B S o none) args s 0 0 (AB B S)) (F0 m 75 ls []) := by
    intro σ v2 H locs ls h sv2 kv2 w hl
    unfold J_X4_readJoin_75 at h
    refine lv_aload_n C.1 C.2.1 dX4_readJoin_75 rfl (lv_at hl 0 rfl) ?_
    obtain ⟨o13, ho13, h⟩ := g_bd h
    refine g_callV (n := 0) (As := []) (rest := []) C w (m_X4_readToken sth kth ho13) (cl_4).1 sth kth (by decide) ml_X4_41 iy_X4_readToken sy_X4_readToken in_X4 cy_X4_readToken ⟨rfl, by decide +kernel, by decide +kernel, by decide +kernel⟩ rfl ⟨Nat.le_of_ble_eq_true rfl, Nat.le_of_ble_eq_true rfl⟩ rfl (Nat.le_of_ble_eq_true rfl) hl.1 ⟨Nat.le_of_ble_eq_true rfl, Nat.le_of_ble_eq_true rfl⟩ dX4_readJoin_76 (fun H locs w => ?_)
    refine lv_aload_n C.1 C.2.1 dX4_readJoin_79 rfl (lv_at hl 1 rfl) ?_
    refine lv_aload_n C.1 C.2.1 dX4_readJoin_80 rfl (lv_at hl 0 rfl) ?_
    refine lv_iconst (v := 0) C.1 C.2.1 dX4_readJoin_81 (by decide) ?_
    refine lv_sipush (v := 999) C.1 C.2.1 dX4_readJoin_82 (by decide) ?_
    obtain ⟨o14, ho14, h⟩ := g_bd h
    refine g_callV (n := 2) (As := [.int 0, .int 999]) (rest := [.ref (B + v2)]) C w (m_X4_takeNumber sth kth ho14) (cl_4).1 sth kth (by decide) ml_X4_73 iy_X4_takeNumber sy_X4_takeNumber in_X4 cy_X4_takeNumber ⟨rfl, by decide +kernel, by decide +kernel, by decide +kernel⟩ rfl ⟨Nat.le_of_ble_eq_true rfl, Nat.le_of_ble_eq_true rfl⟩ rfl (Nat.le_of_ble_eq_true rfl) hl.1 ⟨Nat.le_of_ble_eq_true rfl, Nat.le_of_ble_eq_true rfl⟩ dX4_readJoin_85 (fun H locs w => ?_)
    refine g_putI C w fw_X4_151 sv2 kv2 (by decide) (fun _ _ _ => rfl) rfl rfl dX4_readJoin_88 (fun H locs w => ?_)
    refine lv_aload_n C.1 C.2.1 dX4_readJoin_91 rfl (lv_at hl 1 rfl) ?_
    refine lv_iconst (v := 1) C.1 C.2.1 dX4_readJoin_92 (by decide) ?_
    refine g_putI C w fw_X4_145 sv2 kv2 (by decide) (fun _ _ _ => rfl) (by decide) rfl dX4_readJoin_93 (fun H locs w => ?_)
    exact g_vretV C w hr dX4_readJoin_96 h
  have B_19 : ∀ (σ : GS) (H : Heap) (locs : List Loc) (ls : Array Slot), J_X4_readJoin_19 th σ = some o → WS D cA B S σ s H locs → lv_has ls 3 [(0, .ref (B + th))] → W p l e (rmF 7 150) s m args below meth c H locs 0 0 (MQ below (QF D cA B S o none) args s 0 0 (AB B S)) (F0 m 19 ls []) := by
    intro σ H locs ls h  w hl
    unfold J_X4_readJoin_19 at h
    refine lv_aload_n C.1 C.2.1 dX4_readJoin_19 rfl (lv_at hl 0 rfl) ?_
    refine g_getR C w fl_X4_12 sth kth (by decide) kt_4_0 (fun _ _ _ => rfl) dX4_readJoin_20 (fun s3 k3 => ?_)
    refine lv_aload_n C.1 C.2.1 dX4_readJoin_23 rfl (lv_at hl 0 rfl) ?_
    refine g_getL C w fl_X4_63 sth kth (by decide) (fun _ _ _ => rfl) dX4_readJoin_24 ?_
    obtain ⟨o4, ho4, h⟩ := g_bd h
    refine g_callV (n := 1) (As := [.long (gL σ th 10)]) (rest := []) C w (m_X1_indexOfName s3 k3 ho4) (cl_1).1 s3 k3 (by decide) ml_X4_137 iy_X1_indexOfName sy_X1_indexOfName in_X1 cy_X1_indexOfName ⟨rfl, by decide +kernel, by decide +kernel, by decide +kernel⟩ rfl ⟨Nat.le_of_ble_eq_true rfl, Nat.le_of_ble_eq_true rfl⟩ rfl (Nat.le_of_ble_eq_true rfl) hl.1 ⟨Nat.le_of_ble_eq_true rfl, Nat.le_of_ble_eq_true rfl⟩ dX4_readJoin_27 (fun H locs w => ?_)
    refine lv_istore_n (lv' := [(1, .int o4), (0, .ref (B + th))]) C.1 C.2.1 dX4_readJoin_30 rfl hl (by decide) rfl (fun ls hl => ?_)
    refine lv_iload_n C.1 C.2.1 dX4_readJoin_31 rfl (lv_at hl 0 rfl) ?_
    refine lv_if_lt (tgt := 47) C.1 C.2.1 dX4_readJoin_32 (by decide) (fun hc => ?_) (fun hc => ?_)
    · have h := (if_pos hc).symm.trans h
      refine lv_aload_n C.1 C.2.1 dX4_readJoin_47 rfl (lv_at hl 1 rfl) ?_
      refine lv_iconst (v := 4) C.1 C.2.1 dX4_readJoin_48 (by decide) ?_
      obtain ⟨o5, ho5, h⟩ := g_bd h
      refine g_callV (n := 1) (As := [.int 4]) (rest := []) C w (m_X4_fail sth kth ho5) (cl_4).1 sth kth (by decide) ml_X4_114 iy_X4_fail sy_X4_fail in_X4 cy_X4_fail ⟨rfl, by decide +kernel, by decide +kernel, by decide +kernel⟩ rfl ⟨Nat.le_of_ble_eq_true rfl, Nat.le_of_ble_eq_true rfl⟩ rfl (Nat.le_of_ble_eq_true rfl) hl.1 ⟨Nat.le_of_ble_eq_true rfl, Nat.le_of_ble_eq_true rfl⟩ dX4_readJoin_49 (fun H locs w => ?_)
      exact g_vretV C w hr dX4_readJoin_52 h
    · have h := (if_neg hc).symm.trans h
      refine lv_iload_n C.1 C.2.1 dX4_readJoin_35 rfl (lv_at hl 0 rfl) ?_
      refine lv_aload_n C.1 C.2.1 dX4_readJoin_36 rfl (lv_at hl 1 rfl) ?_
      refine g_getR C w fl_X4_12 sth kth (by decide) kt_4_0 (fun _ _ _ => rfl) dX4_readJoin_37 (fun s6 k6 => ?_)
      refine g_getR C w fl_X4_141 s6 k6 (by decide) kt_1_3 (fun _ _ _ => rfl) dX4_readJoin_40 (fun s7 k7 => ?_)
      refine g_alen C w s7 k7 (by decide) (by decide) dX4_readJoin_43 ?_
      refine lv_icmp_lt (tgt := 53) C.1 C.2.1 dX4_readJoin_44 (by decide) (fun hc => ?_) (fun hc => ?_)
      · have h := (if_pos hc).symm.trans h
        refine lv_aload_n C.1 C.2.1 dX4_readJoin_53 rfl (lv_at hl 1 rfl) ?_
        refine g_getR C w fl_X4_12 sth kth (by decide) kt_4_0 (fun _ _ _ => rfl) dX4_readJoin_54 (fun s8 k8 => ?_)
        refine g_getR C w fl_X4_141 s8 k8 (by decide) kt_1_3 (fun _ _ _ => rfl) dX4_readJoin_57 (fun s9 k9 => ?_)
        refine lv_iload_n C.1 C.2.1 dX4_readJoin_60 rfl (lv_at hl 0 rfl) ?_
        obtain ⟨hb, h⟩ := g_ob h
        refine g_aald C w s9 k9 (by decide) (by decide) rfl rfl (fun _ _ _ _ => rfl) kr_15 hb dX4_readJoin_61 (fun s10 k10 => ?_)
        refine lv_astore_n (lv' := [(2, .ref (B + (rfG (rfG (rfG th 0) 3) o4.toNatClampNeg))), (1, .int o4), (0, .ref (B + th))]) C.1 C.2.1 dX4_readJoin_62 rfl hl (by decide) rfl (fun ls hl => ?_)
        refine lv_aload_n C.1 C.2.1 dX4_readJoin_63 rfl (lv_at hl 0 rfl) ?_
        refine g_getI C w fl_X4_145 s10 k10 (by decide) (fun _ _ _ => rfl) dX4_readJoin_64 ?_
        refine lv_if_eq (tgt := 75) C.1 C.2.1 dX4_readJoin_67 (by decide) (fun hc => ?_) (fun hc => ?_)
        · have h := (if_pos hc).symm.trans h
          exact B_75 _ _ _ _ _ h s10 k10 w (show lv_has ls 3 [(0, .ref (B + th)), (2, .ref (B + (rfG (rfG (rfG th 0) 3) o4.toNatClampNeg)))] from lv_sub hl [2, 0] rfl)
        · have h := (if_neg hc).symm.trans h
          refine lv_aload_n C.1 C.2.1 dX4_readJoin_70 rfl (lv_at hl 2 rfl) ?_
          refine lv_iconst (v := 2) C.1 C.2.1 dX4_readJoin_71 (by decide) ?_
          obtain ⟨o11, ho11, h⟩ := g_bd h
          refine g_callV (n := 1) (As := [.int 2]) (rest := []) C w (m_X4_fail sth kth ho11) (cl_4).1 sth kth (by decide) ml_X4_114 iy_X4_fail sy_X4_fail in_X4 cy_X4_fail ⟨rfl, by decide +kernel, by decide +kernel, by decide +kernel⟩ rfl ⟨Nat.le_of_ble_eq_true rfl, Nat.le_of_ble_eq_true rfl⟩ rfl (Nat.le_of_ble_eq_true rfl) hl.1 ⟨Nat.le_of_ble_eq_true rfl, Nat.le_of_ble_eq_true rfl⟩ dX4_readJoin_72 (fun H locs w => ?_)
          exact B_75 _ _ _ _ _ h s10 k10 w (show lv_has ls 3 [(0, .ref (B + th)), (2, .ref (B + (rfG (rfG (rfG th 0) 3) o4.toNatClampNeg)))] from lv_sub hl [2, 0] rfl)
      · have h := (if_neg hc).symm.trans h
        refine lv_aload_n C.1 C.2.1 dX4_readJoin_47 rfl (lv_at hl 1 rfl) ?_
        refine lv_iconst (v := 4) C.1 C.2.1 dX4_readJoin_48 (by decide) ?_
        obtain ⟨o12, ho12, h⟩ := g_bd h
        refine g_callV (n := 1) (As := [.int 4]) (rest := []) C w (m_X4_fail sth kth ho12) (cl_4).1 sth kth (by decide) ml_X4_114 iy_X4_fail sy_X4_fail in_X4 cy_X4_fail ⟨rfl, by decide +kernel, by decide +kernel, by decide +kernel⟩ rfl ⟨Nat.le_of_ble_eq_true rfl, Nat.le_of_ble_eq_true rfl⟩ rfl (Nat.le_of_ble_eq_true rfl) hl.1 ⟨Nat.le_of_ble_eq_true rfl, Nat.le_of_ble_eq_true rfl⟩ dX4_readJoin_49 (fun H locs w => ?_)
        exact g_vretV C w hr dX4_readJoin_52 h
  have h := h0
  unfold F_X4_readJoin at h
  refine lv_aload_n C.1 C.2.1 dX4_readJoin_0 rfl (lv_at hl 0 rfl) ?_
  refine g_ldcS (t := 3) C w rfl ⟨rfl, rfl⟩ dX4_readJoin_1 ?_
  obtain ⟨o1, ho1, h⟩ := g_bd h
  refine g_callV (n := 1) (As := [.ref (D.2 100 3)]) (rest := []) C w (m_X4_takeWord sth kth (by decide) ho1) (cl_4).1 sth kth (by decide) ml_X4_69 iy_X4_takeWord sy_X4_takeWord in_X4 cy_X4_takeWord ⟨rfl, by decide +kernel, by decide +kernel, by decide +kernel⟩ rfl ⟨Nat.le_of_ble_eq_true rfl, Nat.le_of_ble_eq_true rfl⟩ rfl (Nat.le_of_ble_eq_true rfl) hl.1 ⟨Nat.le_of_ble_eq_true rfl, Nat.le_of_ble_eq_true rfl⟩ dX4_readJoin_3 (fun H locs w => ?_)
  refine lv_aload_n C.1 C.2.1 dX4_readJoin_6 rfl (lv_at hl 0 rfl) ?_
  refine g_getI C w fl_X4_47 sth kth (by decide) (fun _ _ _ => rfl) dX4_readJoin_7 ?_
  refine lv_iconst (v := 1) C.1 C.2.1 dX4_readJoin_10 (by decide) ?_
  refine lv_icmp_eq (tgt := 19) C.1 C.2.1 dX4_readJoin_11 (by decide) (fun hc => ?_) (fun hc => ?_)
  · have h := (if_pos hc).symm.trans h
    exact B_19 _ _ _ _ h w (show lv_has ls 3 [(0, .ref (B + th))] from lv_sub hl [0] rfl)
  · have h := (if_neg hc).symm.trans h
    refine lv_aload_n C.1 C.2.1 dX4_readJoin_14 rfl (lv_at hl 0 rfl) ?_
    refine lv_iconst (v := 1) C.1 C.2.1 dX4_readJoin_15 (by decide) ?_
    obtain ⟨o2, ho2, h⟩ := g_bd h
    refine g_callV (n := 1) (As := [.int 1]) (rest := []) C w (m_X4_fail sth kth ho2) (cl_4).1 sth kth (by decide) ml_X4_114 iy_X4_fail sy_X4_fail in_X4 cy_X4_fail ⟨rfl, by decide +kernel, by decide +kernel, by decide +kernel⟩ rfl ⟨Nat.le_of_ble_eq_true rfl, Nat.le_of_ble_eq_true rfl⟩ rfl (Nat.le_of_ble_eq_true rfl) hl.1 ⟨Nat.le_of_ble_eq_true rfl, Nat.le_of_ble_eq_true rfl⟩ dX4_readJoin_16 (fun H locs w => ?_)
    exact B_19 _ _ _ _ h w (show lv_has ls 3 [(0, .ref (B + th))] from lv_sub hl [0] rfl)

set_option maxHeartbeats 4000000 in
set_option maxRecDepth 100000 in
theorem m_X4_readPlayer {l : Launch} {D : va_G} {cA : Nat → ClassId} {B : Nat} {S : Nat → Prop} {σ : GS} {th : Nat} {o : GS} (sth : S th) (kth : kdG th = 4) (h0 : F_X4_readPlayer σ th = some o) : MF l yX4_readPlayer cX4_readPlayer 2 none 7 150 D cA B S [.ref (B + th)] σ o none := by
  refine MF.of (by decide +kernel) (Nat.le_of_ble_eq_true rfl) ?_
  intro p e s m args below meth c C hr w ls hl
  have hl : lv_has ls 2 [(0, .ref (B + th))] := hl
  have h := h0
  unfold F_X4_readPlayer at h
  refine lv_aload_n C.1 C.2.1 dX4_readPlayer_0 rfl (lv_at hl 0 rfl) ?_
  refine g_getR C w fl_X4_12 sth kth (by decide) kt_4_0 (fun _ _ _ => rfl) dX4_readPlayer_1 (fun s1 k1 => ?_)
  refine g_getI C w fl_X4_153 s1 k1 (by decide) (fun _ _ _ => rfl) dX4_readPlayer_4 ?_
  refine lv_if_lt (tgt := 28) C.1 C.2.1 dX4_readPlayer_7 (by decide) (fun hc => ?_) (fun hc => ?_)
  · have h := (if_pos hc).symm.trans h
    refine lv_aload_n C.1 C.2.1 dX4_readPlayer_28 rfl (lv_at hl 0 rfl) ?_
    refine lv_iconst (v := 5) C.1 C.2.1 dX4_readPlayer_29 (by decide) ?_
    obtain ⟨o2, ho2, h⟩ := g_bd h
    refine g_callV (n := 1) (As := [.int 5]) (rest := []) C w (m_X4_fail sth kth ho2) (cl_4).1 sth kth (by decide) ml_X4_114 iy_X4_fail sy_X4_fail in_X4 cy_X4_fail ⟨rfl, by decide +kernel, by decide +kernel, by decide +kernel⟩ rfl ⟨Nat.le_of_ble_eq_true rfl, Nat.le_of_ble_eq_true rfl⟩ rfl (Nat.le_of_ble_eq_true rfl) hl.1 ⟨Nat.le_of_ble_eq_true rfl, Nat.le_of_ble_eq_true rfl⟩ dX4_readPlayer_30 (fun H locs w => ?_)
    exact g_vretV C w hr dX4_readPlayer_33 h
  · have h := (if_neg hc).symm.trans h
    refine lv_aload_n C.1 C.2.1 dX4_readPlayer_10 rfl (lv_at hl 0 rfl) ?_
    refine g_getR C w fl_X4_12 sth kth (by decide) kt_4_0 (fun _ _ _ => rfl) dX4_readPlayer_11 (fun s3 k3 => ?_)
    refine g_getI C w fl_X4_153 s3 k3 (by decide) (fun _ _ _ => rfl) dX4_readPlayer_14 ?_
    refine lv_aload_n C.1 C.2.1 dX4_readPlayer_17 rfl (lv_at hl 0 rfl) ?_
    refine g_getR C w fl_X4_12 sth kth (by decide) kt_4_0 (fun _ _ _ => rfl) dX4_readPlayer_18 (fun s4 k4 => ?_)
    refine g_getR C w fl_X4_141 s4 k4 (by decide) kt_1_3 (fun _ _ _ => rfl) dX4_readPlayer_21 (fun s5 k5 => ?_)
    refine g_alen C w s5 k5 (by decide) (by decide) dX4_readPlayer_24 ?_
    refine lv_icmp_lt (tgt := 34) C.1 C.2.1 dX4_readPlayer_25 (by decide) (fun hc => ?_) (fun hc => ?_)
    · have h := (if_pos hc).symm.trans h
      refine lv_aload_n C.1 C.2.1 dX4_readPlayer_34 rfl (lv_at hl 0 rfl) ?_
      refine g_getR C w fl_X4_12 sth kth (by decide) kt_4_0 (fun _ _ _ => rfl) dX4_readPlayer_35 (fun s6 k6 => ?_)
      refine g_getR C w fl_X4_141 s6 k6 (by decide) kt_1_3 (fun _ _ _ => rfl) dX4_readPlayer_38 (fun s7 k7 => ?_)
      refine lv_aload_n C.1 C.2.1 dX4_readPlayer_41 rfl (lv_at hl 0 rfl) ?_
      refine g_getR C w fl_X4_12 sth kth (by decide) kt_4_0 (fun _ _ _ => rfl) dX4_readPlayer_42 (fun s8 k8 => ?_)
      refine g_getI C w fl_X4_153 s8 k8 (by decide) (fun _ _ _ => rfl) dX4_readPlayer_45 ?_
      obtain ⟨hb, h⟩ := g_ob h
      refine g_aald C w s7 k7 (by decide) (by decide) rfl rfl (fun _ _ _ _ => rfl) kr_15 hb dX4_readPlayer_48 (fun s9 k9 => ?_)
      refine lv_astore_n (lv' := [(1, .ref (B + (rfG (rfG (rfG th 0) 3) (gI σ (rfG th 0) 10).toNatClampNeg))), (0, .ref (B + th))]) C.1 C.2.1 dX4_readPlayer_49 rfl hl (by decide) rfl (fun ls hl => ?_)
      refine lv_aload_n C.1 C.2.1 dX4_readPlayer_50 rfl (lv_at hl 1 rfl) ?_
      refine g_ldcS (t := 4) C w rfl ⟨rfl, rfl⟩ dX4_readPlayer_51 ?_
      obtain ⟨o10, ho10, h⟩ := g_bd h
      refine g_callV (n := 1) (As := [.ref (D.2 100 4)]) (rest := []) C w (m_X4_takeWord sth kth (by decide) ho10) (cl_4).1 sth kth (by decide) ml_X4_69 iy_X4_takeWord sy_X4_takeWord in_X4 cy_X4_takeWord ⟨rfl, by decide +kernel, by decide +kernel, by decide +kernel⟩ rfl ⟨Nat.le_of_ble_eq_true rfl, Nat.le_of_ble_eq_true rfl⟩ rfl (Nat.le_of_ble_eq_true rfl) hl.1 ⟨Nat.le_of_ble_eq_true rfl, Nat.le_of_ble_eq_true rfl⟩ dX4_readPlayer_53 (fun H locs w => ?_)
      refine lv_aload_n C.1 C.2.1 dX4_readPlayer_56 rfl (lv_at hl 0 rfl) ?_
      refine lv_aload_n C.1 C.2.1 dX4_readPlayer_57 rfl (lv_at hl 1 rfl) ?_
      obtain ⟨o11, ho11, h⟩ := g_bd h
      refine g_callV (n := 0) (As := []) (rest := [.ref (B + (rfG (rfG (rfG th 0) 3) (gI σ (rfG th 0) 10).toNatClampNeg))]) C w (m_X4_takeNewName sth kth ho11) (cl_4).1 sth kth (by decide) ml_X4_156 iy_X4_takeNewName sy_X4_takeNewName in_X4 cy_X4_takeNewName ⟨rfl, by decide +kernel, by decide +kernel, by decide +kernel⟩ rfl ⟨Nat.le_of_ble_eq_true rfl, Nat.le_of_ble_eq_true rfl⟩ rfl (Nat.le_of_ble_eq_true rfl) hl.1 ⟨Nat.le_of_ble_eq_true rfl, Nat.le_of_ble_eq_true rfl⟩ dX4_readPlayer_58 (fun H locs w => ?_)
      refine g_putL C w fw_X4_160 s9 k9 (by decide) (fun _ _ _ => rfl) rfl rfl dX4_readPlayer_61 (fun H locs w => ?_)
      refine lv_aload_n C.1 C.2.1 dX4_readPlayer_64 rfl (lv_at hl 0 rfl) ?_
      refine lv_aload_n C.1 C.2.1 dX4_readPlayer_65 rfl (lv_at hl 1 rfl) ?_
      obtain ⟨o13, ho13, h⟩ := g_bd h
      refine g_callV (n := 0) (As := []) (rest := [.ref (B + (rfG (rfG (rfG th 0) 3) (gI σ (rfG th 0) 10).toNatClampNeg))]) C w (m_X4_takeRule sth kth ho13) (cl_4).1 sth kth (by decide) ml_X4_163 iy_X4_takeRule sy_X4_takeRule in_X4 cy_X4_takeRule ⟨rfl, by decide +kernel, by decide +kernel, by decide +kernel⟩ rfl ⟨Nat.le_of_ble_eq_true rfl, Nat.le_of_ble_eq_true rfl⟩ rfl (Nat.le_of_ble_eq_true rfl) hl.1 ⟨Nat.le_of_ble_eq_true rfl, Nat.le_of_ble_eq_true rfl⟩ dX4_readPlayer_66 (fun H locs w => ?_)
      refine g_putI C w fw_X4_167 s9 k9 (by decide) (fun _ _ _ => rfl) rfl rfl dX4_readPlayer_69 (fun H locs w => ?_)
      refine lv_aload_n C.1 C.2.1 dX4_readPlayer_72 rfl (lv_at hl 0 rfl) ?_
      refine lv_aload_n C.1 C.2.1 dX4_readPlayer_73 rfl (lv_at hl 1 rfl) ?_
      refine lv_iconst (v := 1) C.1 C.2.1 dX4_readPlayer_74 (by decide) ?_
      refine lv_bipush (v := 30) C.1 C.2.1 dX4_readPlayer_75 (by decide) ?_
      obtain ⟨o15, ho15, h⟩ := g_bd h
      refine g_callV (n := 2) (As := [.int 1, .int 30]) (rest := [.ref (B + (rfG (rfG (rfG th 0) 3) (gI σ (rfG th 0) 10).toNatClampNeg))]) C w (m_X4_takeNumber sth kth ho15) (cl_4).1 sth kth (by decide) ml_X4_73 iy_X4_takeNumber sy_X4_takeNumber in_X4 cy_X4_takeNumber ⟨rfl, by decide +kernel, by decide +kernel, by decide +kernel⟩ rfl ⟨Nat.le_of_ble_eq_true rfl, Nat.le_of_ble_eq_true rfl⟩ rfl (Nat.le_of_ble_eq_true rfl) hl.1 ⟨Nat.le_of_ble_eq_true rfl, Nat.le_of_ble_eq_true rfl⟩ dX4_readPlayer_77 (fun H locs w => ?_)
      refine g_putI C w fw_X4_170 s9 k9 (by decide) (fun _ _ _ => rfl) rfl rfl dX4_readPlayer_80 (fun H locs w => ?_)
      refine lv_aload_n C.1 C.2.1 dX4_readPlayer_83 rfl (lv_at hl 0 rfl) ?_
      refine lv_aload_n C.1 C.2.1 dX4_readPlayer_84 rfl (lv_at hl 1 rfl) ?_
      refine lv_iconst (v := 1) C.1 C.2.1 dX4_readPlayer_85 (by decide) ?_
      refine lv_bipush (v := 9) C.1 C.2.1 dX4_readPlayer_86 (by decide) ?_
      obtain ⟨o17, ho17, h⟩ := g_bd h
      refine g_callV (n := 2) (As := [.int 1, .int 9]) (rest := [.ref (B + (rfG (rfG (rfG th 0) 3) (gI σ (rfG th 0) 10).toNatClampNeg))]) C w (m_X4_takeNumber sth kth ho17) (cl_4).1 sth kth (by decide) ml_X4_73 iy_X4_takeNumber sy_X4_takeNumber in_X4 cy_X4_takeNumber ⟨rfl, by decide +kernel, by decide +kernel, by decide +kernel⟩ rfl ⟨Nat.le_of_ble_eq_true rfl, Nat.le_of_ble_eq_true rfl⟩ rfl (Nat.le_of_ble_eq_true rfl) hl.1 ⟨Nat.le_of_ble_eq_true rfl, Nat.le_of_ble_eq_true rfl⟩ dX4_readPlayer_88 (fun H locs w => ?_)
      refine g_putI C w fw_X4_173 s9 k9 (by decide) (fun _ _ _ => rfl) rfl rfl dX4_readPlayer_91 (fun H locs w => ?_)
      refine lv_aload_n C.1 C.2.1 dX4_readPlayer_94 rfl (lv_at hl 1 rfl) ?_
      refine lv_aload_n C.1 C.2.1 dX4_readPlayer_95 rfl (lv_at hl 0 rfl) ?_
      obtain ⟨o19, ho19, h⟩ := g_bd h
      refine g_callV (n := 1) (As := [.ref (B + (rfG (rfG (rfG th 0) 3) (gI σ (rfG th 0) 10).toNatClampNeg))]) (rest := []) C w (m_X4_readSizes sth kth s9 k9 ho19) (cl_4).1 sth kth (by decide) ml_X4_176 iy_X4_readSizes sy_X4_readSizes in_X4 cy_X4_readSizes ⟨rfl, by decide +kernel, by decide +kernel, by decide +kernel⟩ rfl ⟨Nat.le_of_ble_eq_true rfl, Nat.le_of_ble_eq_true rfl⟩ rfl (Nat.le_of_ble_eq_true rfl) hl.1 ⟨Nat.le_of_ble_eq_true rfl, Nat.le_of_ble_eq_true rfl⟩ dX4_readPlayer_96 (fun H locs w => ?_)
      refine lv_aload_n C.1 C.2.1 dX4_readPlayer_99 rfl (lv_at hl 1 rfl) ?_
      refine g_getR C w fl_X4_12 sth kth (by decide) kt_4_0 (fun _ _ _ => rfl) dX4_readPlayer_100 (fun s20 k20 => ?_)
      refine lv_dup C.1 C.2.1 dX4_readPlayer_103 rfl ?_
      refine g_getI C w fl_X4_153 s20 k20 (by decide) (fun _ _ _ => rfl) dX4_readPlayer_104 ?_
      refine lv_iconst (v := 1) C.1 C.2.1 dX4_readPlayer_107 (by decide) ?_
      refine lv_iadd C.1 C.2.1 dX4_readPlayer_108 ?_
      refine g_putI C w fw_X4_153 s20 k20 (by decide) (fun _ _ _ => rfl) rfl rfl dX4_readPlayer_109 (fun H locs w => ?_)
      exact g_vretV C w hr dX4_readPlayer_112 h
    · have h := (if_neg hc).symm.trans h
      refine lv_aload_n C.1 C.2.1 dX4_readPlayer_28 rfl (lv_at hl 0 rfl) ?_
      refine lv_iconst (v := 5) C.1 C.2.1 dX4_readPlayer_29 (by decide) ?_
      obtain ⟨o22, ho22, h⟩ := g_bd h
      refine g_callV (n := 1) (As := [.int 5]) (rest := []) C w (m_X4_fail sth kth ho22) (cl_4).1 sth kth (by decide) ml_X4_114 iy_X4_fail sy_X4_fail in_X4 cy_X4_fail ⟨rfl, by decide +kernel, by decide +kernel, by decide +kernel⟩ rfl ⟨Nat.le_of_ble_eq_true rfl, Nat.le_of_ble_eq_true rfl⟩ rfl (Nat.le_of_ble_eq_true rfl) hl.1 ⟨Nat.le_of_ble_eq_true rfl, Nat.le_of_ble_eq_true rfl⟩ dX4_readPlayer_30 (fun H locs w => ?_)
      exact g_vretV C w hr dX4_readPlayer_33 h

set_option maxHeartbeats 4000000 in
set_option maxRecDepth 100000 in
theorem m_X7_share {l : Launch} (hfl : l.stackTraces = false) {D : va_G} {cA : Nat → ClassId} {B : Nat} {S : Nat → Prop} {σ : GS} {th : Nat} {a1 : Int32} {o : GS × (String ⊕ Int32)} (sth : S th) (kth : kdG th = 7) (h0 : F_X7_share σ th a1 = some o) : MX l yX7_share cX7_share 3 (some .int) 8 131 1 D cA B S [.ref (B + th), .int a1] σ o.1 (mRi o.2) := by
  refine MX.of (by decide +kernel) (Nat.le_of_ble_eq_true rfl) ?_
  intro p e s m args below meth c C hr hex w ls hl
  have hl : lv_has ls 3 [(0, .ref (B + th)), (1, .int a1)] := hl
  have h := h0
  unfold F_X7_share at h
  refine lv_aload_n C.1 C.2.1 dX7_share_0 rfl (lv_at hl 0 rfl) ?_
  refine lv_iload_n C.1 C.2.1 dX7_share_1 rfl (lv_at hl 1 rfl) ?_
  obtain ⟨o1, ho1, h⟩ := g_bd h
  obtain ⟨σ3, r9⟩ := o1
  rcases r9 with E9 | x2
  · refine g_callVX (n := 1) (As := [.int a1]) (rest := []) C w (m_X7_seatOf hfl sth kth ho1) (cl_7).1 sth kth (by decide) ml_X7_135 iy_X7_seatOf sy_X7_seatOf in_X7 cy_X7_seatOf ⟨rfl, by decide +kernel, by decide +kernel, by decide +kernel⟩ rfl ⟨Nat.le_of_ble_eq_true rfl, Nat.le_of_ble_eq_true rfl⟩ rfl (Nat.le_of_ble_eq_true rfl) hl.1 ⟨Nat.le_of_ble_eq_true rfl, Nat.le_of_ble_eq_true rfl⟩ dX7_share_2 (fun E ce q H locs e9 w h1 h2 h3 => ?_) (fun v H locs e9 w => nomatch e9)
    exact g_outE C w hex (Sum.inl.inj e9) h1 h2 h3 (Nat.le_of_ble_eq_true rfl) (Nat.le_of_ble_eq_true rfl) (fun _ => rfl) h
  refine g_callVX (n := 1) (As := [.int a1]) (rest := []) C w (m_X7_seatOf hfl sth kth ho1) (cl_7).1 sth kth (by decide) ml_X7_135 iy_X7_seatOf sy_X7_seatOf in_X7 cy_X7_seatOf ⟨rfl, by decide +kernel, by decide +kernel, by decide +kernel⟩ rfl ⟨Nat.le_of_ble_eq_true rfl, Nat.le_of_ble_eq_true rfl⟩ rfl (Nat.le_of_ble_eq_true rfl) hl.1 ⟨Nat.le_of_ble_eq_true rfl, Nat.le_of_ble_eq_true rfl⟩ dX7_share_2 (fun E ce q H locs e9 w h1 h2 h3 => nomatch e9) (fun v H locs e9 w => ?_)
  cases Sum.inr.inj e9
  have ⟨s4, k4⟩ := r_X7_seatOf w.2.1 sth kth ho1
  refine lv_astore_n (lv' := [(2, .ref (B + x2)), (0, .ref (B + th)), (1, .int a1)]) C.1 C.2.1 dX7_share_5 rfl hl (by decide) rfl (fun ls hl => ?_)
  refine lv_aload_n C.1 C.2.1 dX7_share_6 rfl (lv_at hl 1 rfl) ?_
  refine g_getR C w fl_X7_37 sth kth (by decide) kt_7_3 (fun _ _ _ => rfl) dX7_share_7 (fun s5 k5 => ?_)
  obtain ⟨o6, ho6, h⟩ := g_bd h
  refine g_callV (n := 0) (As := []) (rest := []) C w (m_X2_afterOneTick s5 k5 ho6) (cl_2).1 s5 k5 (by decide) ml_X7_215 iy_X2_afterOneTick sy_X2_afterOneTick in_X2 cy_X2_afterOneTick ⟨rfl, by decide +kernel, by decide +kernel, by decide +kernel⟩ rfl ⟨Nat.le_of_ble_eq_true rfl, Nat.le_of_ble_eq_true rfl⟩ rfl (Nat.le_of_ble_eq_true rfl) hl.1 ⟨Nat.le_of_ble_eq_true rfl, Nat.le_of_ble_eq_true rfl⟩ dX7_share_10 (fun H locs w => ?_)
  have ⟨s7, k7⟩ := r_X2_afterOneTick w.2.1 s5 k5 ho6
  refine lv_iload_n C.1 C.2.1 dX7_share_13 rfl (lv_at hl 2 rfl) ?_
  obtain ⟨o8, ho8, h⟩ := g_bd h
  refine g_callV (n := 1) (As := [.int a1]) (rest := []) C w (m_X5_seat s7 k7 ho8) (cl_5).1 s7 k7 (by decide) ml_X7_219 iy_X5_seat sy_X5_seat in_X5 cy_X5_seat ⟨rfl, by decide +kernel, by decide +kernel, by decide +kernel⟩ rfl ⟨Nat.le_of_ble_eq_true rfl, Nat.le_of_ble_eq_true rfl⟩ rfl (Nat.le_of_ble_eq_true rfl) hl.1 ⟨Nat.le_of_ble_eq_true rfl, Nat.le_of_ble_eq_true rfl⟩ dX7_share_14 (fun H locs w => ?_)
  have ⟨s9, k9⟩ := r_X5_seat w.2.1 s7 k7 ho8
  refine g_getI C w fl_X7_169 s9 k9 (by decide) (fun _ _ _ => rfl) dX7_share_17 ?_
  refine lv_aload_n C.1 C.2.1 dX7_share_20 rfl (lv_at hl 0 rfl) ?_
  refine g_getI C w fl_X7_169 s4 k4 (by decide) (fun _ _ _ => rfl) dX7_share_21 ?_
  refine lv_isub C.1 C.2.1 dX7_share_24 ?_
  exact g_iretX C w hr dX7_share_25 h (fun _ => rfl) (Nat.le_of_ble_eq_true rfl) (Nat.le_of_ble_eq_true rfl)

theorem g_sw0_4 {x : Int32} (h0 : ¬ x = 0) (h1 : ¬ x = 1) (h2 : ¬ x = 2) (h3 : ¬ x = 3) (h4 : ¬ x = 4) : x.toInt < 0 ∨ 4 < x.toInt := by
  have e0 := lv_neT h0 (show (0 : Int32).toInt = 0 by decide)
  have e1 := lv_neT h1 (show (1 : Int32).toInt = 1 by decide)
  have e2 := lv_neT h2 (show (2 : Int32).toInt = 2 by decide)
  have e3 := lv_neT h3 (show (3 : Int32).toInt = 3 by decide)
  have e4 := lv_neT h4 (show (4 : Int32).toInt = 4 by decide)
  omega
set_option maxHeartbeats 4000000 in
set_option maxRecDepth 100000 in
theorem m_X7_forecast {l : Launch} (hfl : l.stackTraces = false) {D : va_G} {cA : Nat → ClassId} {B : Nat} {S : Nat → Prop} {σ : GS} {th : Nat} {a1 : Int32} {a2 : Int32} {o : GS × (String ⊕ Int32)} (sth : S th) (kth : kdG th = 7) (h0 : F_X7_forecast σ th a1 a2 = some o) : MX l yX7_forecast cX7_forecast 5 (some .int) 7 139 2 D cA B S [.ref (B + th), .int a1, .int a2] σ o.1 (mRi o.2) := by
  refine MX.of (by decide +kernel) (Nat.le_of_ble_eq_true rfl) ?_
  intro p e s m args below meth c C hr hex w ls hl
  have hl : lv_has ls 5 [(0, .ref (B + th)), (1, .int a1), (2, .int a2)] := hl
  have h := h0
  unfold F_X7_forecast at h
  refine lv_aload_n C.1 C.2.1 dX7_forecast_0 rfl (lv_at hl 0 rfl) ?_
  refine lv_iload_n C.1 C.2.1 dX7_forecast_1 rfl (lv_at hl 1 rfl) ?_
  obtain ⟨o1, ho1, h⟩ := g_bd h
  obtain ⟨σ3, r9⟩ := o1
  rcases r9 with E9 | _x
  · refine g_callVX (n := 1) (As := [.int a1]) (rest := []) C w (m_X7_testPlayer hfl sth kth ho1) (cl_7).1 sth kth (by decide) ml_X7_222 iy_X7_testPlayer sy_X7_testPlayer in_X7 cy_X7_testPlayer ⟨rfl, by decide +kernel, by decide +kernel, by decide +kernel⟩ rfl ⟨Nat.le_of_ble_eq_true rfl, Nat.le_of_ble_eq_true rfl⟩ rfl (Nat.le_of_ble_eq_true rfl) hl.1 ⟨Nat.le_of_ble_eq_true rfl, Nat.le_of_ble_eq_true rfl⟩ dX7_forecast_2 (fun E ce q H locs e9 w h1 h2 h3 => ?_) (fun v H locs e9 w => nomatch e9)
    exact g_outE C w hex (Sum.inl.inj e9) h1 h2 h3 (Nat.le_of_ble_eq_true rfl) (Nat.le_of_ble_eq_true rfl) (fun _ => rfl) h
  refine g_callVX (n := 1) (As := [.int a1]) (rest := []) C w (m_X7_testPlayer hfl sth kth ho1) (cl_7).1 sth kth (by decide) ml_X7_222 iy_X7_testPlayer sy_X7_testPlayer in_X7 cy_X7_testPlayer ⟨rfl, by decide +kernel, by decide +kernel, by decide +kernel⟩ rfl ⟨Nat.le_of_ble_eq_true rfl, Nat.le_of_ble_eq_true rfl⟩ rfl (Nat.le_of_ble_eq_true rfl) hl.1 ⟨Nat.le_of_ble_eq_true rfl, Nat.le_of_ble_eq_true rfl⟩ dX7_forecast_2 (fun E ce q H locs e9 w h1 h2 h3 => nomatch e9) (fun v H locs e9 w => ?_)
  cases Sum.inr.inj e9
  refine lv_iload_n C.1 C.2.1 dX7_forecast_5 rfl (lv_at hl 2 rfl) ?_
  refine lv_if_lt (tgt := 14) C.1 C.2.1 dX7_forecast_6 (by decide) (fun hc => ?_) (fun hc => ?_)
  · have h := (if_pos hc).symm.trans h
    exact g_throwE C w hfl tw_IllegalArgumentException hex hl.1 dX7_forecast_14 dX7_forecast_17 dX7_forecast_18 dX7_forecast_21 (Nat.le_of_ble_eq_true rfl) (Nat.le_of_ble_eq_true rfl) (Nat.le_of_ble_eq_true rfl) (Nat.le_of_ble_eq_true rfl) (Nat.le_of_ble_eq_true rfl) (Nat.le_of_ble_eq_true rfl) (fun _ => rfl) h
  · have h := (if_neg hc).symm.trans h
    refine lv_iload_n C.1 C.2.1 dX7_forecast_9 rfl (lv_at hl 2 rfl) ?_
    refine lv_iconst (v := 5) C.1 C.2.1 dX7_forecast_10 (by decide) ?_
    refine lv_icmp_le (tgt := 22) C.1 C.2.1 dX7_forecast_11 (by decide) (fun hc => ?_) (fun hc => ?_)
    · have h := (if_pos hc).symm.trans h
      refine lv_aload_n C.1 C.2.1 dX7_forecast_22 rfl (lv_at hl 0 rfl) ?_
      refine g_getR C w fl_X7_37 sth kth (by decide) kt_7_3 (fun _ _ _ => rfl) dX7_forecast_23 (fun s4 k4 => ?_)
      obtain ⟨o5, ho5, h⟩ := g_bd h
      refine g_callV (n := 0) (As := []) (rest := []) C w (m_X2_atEnd s4 k4 ho5) (cl_2).1 s4 k4 (by decide) ml_X7_225 iy_X2_atEnd sy_X2_atEnd in_X2 cy_X2_atEnd ⟨rfl, by decide +kernel, by decide +kernel, by decide +kernel⟩ rfl ⟨Nat.le_of_ble_eq_true rfl, Nat.le_of_ble_eq_true rfl⟩ rfl (Nat.le_of_ble_eq_true rfl) hl.1 ⟨Nat.le_of_ble_eq_true rfl, Nat.le_of_ble_eq_true rfl⟩ dX7_forecast_26 (fun H locs w => ?_)
      have ⟨s6, k6⟩ := r_X2_atEnd w.2.1 s4 k4 ho5
      refine lv_astore_n (lv' := [(3, .ref (B + o5.2)), (0, .ref (B + th)), (1, .int a1), (2, .int a2)]) C.1 C.2.1 dX7_forecast_29 rfl hl (by decide) rfl (fun ls hl => ?_)
      refine lv_aload_n C.1 C.2.1 dX7_forecast_30 rfl (lv_at hl 0 rfl) ?_
      refine lv_iload_n C.1 C.2.1 dX7_forecast_31 rfl (lv_at hl 2 rfl) ?_
      obtain ⟨o7, ho7, h⟩ := g_bd h
      refine g_callV (n := 1) (As := [.int a1]) (rest := []) C w (m_X5_seat s6 k6 ho7) (cl_5).1 s6 k6 (by decide) ml_X7_219 iy_X5_seat sy_X5_seat in_X5 cy_X5_seat ⟨rfl, by decide +kernel, by decide +kernel, by decide +kernel⟩ rfl ⟨Nat.le_of_ble_eq_true rfl, Nat.le_of_ble_eq_true rfl⟩ rfl (Nat.le_of_ble_eq_true rfl) hl.1 ⟨Nat.le_of_ble_eq_true rfl, Nat.le_of_ble_eq_true rfl⟩ dX7_forecast_32 (fun H locs w => ?_)
      have ⟨s8, k8⟩ := r_X5_seat w.2.1 s6 k6 ho7
      refine lv_astore (lv' := [(4, .ref (B + o7)), (3, .ref (B + o5.2)), (0, .ref (B + th)), (1, .int a1), (2, .int a2)]) C.1 C.2.1 dX7_forecast_35 hl (by decide) rfl (fun ls hl => ?_)
      refine lv_iload_n C.1 C.2.1 dX7_forecast_37 rfl (lv_at hl 4 rfl) ?_
      by_cases hc0 : a2 = 0
      · have h := (if_pos hc0).symm.trans h
        refine lv_tableIn (off := 34) (tgt := 72) C.1 C.2.1 dX7_forecast_38 (by rw [hc0]; decide) (by rw [hc0]; decide) (by rw [hc0]; decide) (by decide) ?_
        refine lv_aload C.1 C.2.1 dX7_forecast_72 (lv_at hl 0 rfl) ?_
        refine g_getI C w fl_X7_157 s8 k8 (by decide) (fun _ _ _ => rfl) dX7_forecast_74 ?_
        exact g_iretX C w hr dX7_forecast_77 h (fun _ => rfl) (Nat.le_of_ble_eq_true rfl) (Nat.le_of_ble_eq_true rfl)
      have h := (if_neg hc0).symm.trans h
      by_cases hc1 : a2 = 1
      · have h := (if_pos hc1).symm.trans h
        refine lv_tableIn (off := 40) (tgt := 78) C.1 C.2.1 dX7_forecast_38 (by rw [hc1]; decide) (by rw [hc1]; decide) (by rw [hc1]; decide) (by decide) ?_
        refine lv_aload C.1 C.2.1 dX7_forecast_78 (lv_at hl 0 rfl) ?_
        refine g_getI C w fl_X7_160 s8 k8 (by decide) (fun _ _ _ => rfl) dX7_forecast_80 ?_
        exact g_iretX C w hr dX7_forecast_83 h (fun _ => rfl) (Nat.le_of_ble_eq_true rfl) (Nat.le_of_ble_eq_true rfl)
      have h := (if_neg hc1).symm.trans h
      by_cases hc2 : a2 = 2
      · have h := (if_pos hc2).symm.trans h
        refine lv_tableIn (off := 46) (tgt := 84) C.1 C.2.1 dX7_forecast_38 (by rw [hc2]; decide) (by rw [hc2]; decide) (by rw [hc2]; decide) (by decide) ?_
        refine lv_aload C.1 C.2.1 dX7_forecast_84 (lv_at hl 0 rfl) ?_
        obtain ⟨o9, ho9, h⟩ := g_bd h
        refine g_callV (n := 0) (As := []) (rest := []) C w (m_X3_countSwitches s8 k8 ho9) (cl_3).1 s8 k8 (by decide) ml_X7_163 iy_X3_countSwitches sy_X3_countSwitches in_X3 cy_X3_countSwitches ⟨rfl, by decide +kernel, by decide +kernel, by decide +kernel⟩ rfl ⟨Nat.le_of_ble_eq_true rfl, Nat.le_of_ble_eq_true rfl⟩ rfl (Nat.le_of_ble_eq_true rfl) hl.1 ⟨Nat.le_of_ble_eq_true rfl, Nat.le_of_ble_eq_true rfl⟩ dX7_forecast_86 (fun H locs w => ?_)
        exact g_iretX C w hr dX7_forecast_89 h (fun _ => rfl) (Nat.le_of_ble_eq_true rfl) (Nat.le_of_ble_eq_true rfl)
      have h := (if_neg hc2).symm.trans h
      by_cases hc3 : a2 = 3
      · have h := (if_pos hc3).symm.trans h
        refine lv_tableIn (off := 52) (tgt := 90) C.1 C.2.1 dX7_forecast_38 (by rw [hc3]; decide) (by rw [hc3]; decide) (by rw [hc3]; decide) (by decide) ?_
        refine lv_aload C.1 C.2.1 dX7_forecast_90 (lv_at hl 0 rfl) ?_
        obtain ⟨o10, ho10, h⟩ := g_bd h
        refine g_callV (n := 0) (As := []) (rest := []) C w (m_X3_sumOfQualities s8 k8 ho10) (cl_3).1 s8 k8 (by decide) ml_X7_166 iy_X3_sumOfQualities sy_X3_sumOfQualities in_X3 cy_X3_sumOfQualities ⟨rfl, by decide +kernel, by decide +kernel, by decide +kernel⟩ rfl ⟨Nat.le_of_ble_eq_true rfl, Nat.le_of_ble_eq_true rfl⟩ rfl (Nat.le_of_ble_eq_true rfl) hl.1 ⟨Nat.le_of_ble_eq_true rfl, Nat.le_of_ble_eq_true rfl⟩ dX7_forecast_92 (fun H locs w => ?_)
        exact g_iretX C w hr dX7_forecast_95 h (fun _ => rfl) (Nat.le_of_ble_eq_true rfl) (Nat.le_of_ble_eq_true rfl)
      have h := (if_neg hc3).symm.trans h
      by_cases hc4 : a2 = 4
      · have h := (if_pos hc4).symm.trans h
        refine lv_tableIn (off := 58) (tgt := 96) C.1 C.2.1 dX7_forecast_38 (by rw [hc4]; decide) (by rw [hc4]; decide) (by rw [hc4]; decide) (by decide) ?_
        refine lv_aload C.1 C.2.1 dX7_forecast_96 (lv_at hl 0 rfl) ?_
        refine g_getI C w fl_X7_147 s8 k8 (by decide) (fun _ _ _ => rfl) dX7_forecast_98 ?_
        exact g_iretX C w hr dX7_forecast_101 h (fun _ => rfl) (Nat.le_of_ble_eq_true rfl) (Nat.le_of_ble_eq_true rfl)
      have h := (if_neg hc4).symm.trans h
      refine lv_tableOut (tgt := 102) C.1 C.2.1 dX7_forecast_38 (g_sw0_4 hc0 hc1 hc2 hc3 hc4) (by decide) ?_
      refine lv_aload_n C.1 C.2.1 dX7_forecast_102 rfl (lv_at hl 1 rfl) ?_
      refine g_getI C w fl_X7_111 s6 k6 (by decide) (fun _ _ _ => rfl) dX7_forecast_103 ?_
      exact g_iretX C w hr dX7_forecast_106 h (fun _ => rfl) (Nat.le_of_ble_eq_true rfl) (Nat.le_of_ble_eq_true rfl)
    · have h := (if_neg hc).symm.trans h
      exact g_throwE C w hfl tw_IllegalArgumentException hex hl.1 dX7_forecast_14 dX7_forecast_17 dX7_forecast_18 dX7_forecast_21 (Nat.le_of_ble_eq_true rfl) (Nat.le_of_ble_eq_true rfl) (Nat.le_of_ble_eq_true rfl) (Nat.le_of_ble_eq_true rfl) (Nat.le_of_ble_eq_true rfl) (Nat.le_of_ble_eq_true rfl) (fun _ => rfl) h

set_option maxHeartbeats 4000000 in
set_option maxRecDepth 100000 in
theorem m_X2_greatestSteadyQuality {l : Launch} {D : va_G} {cA : Nat → ClassId} {B : Nat} {S : Nat → Prop} {σ : GS} {th : Nat} {a1 : Int32} {o : GS × Int32} (sth : S th) (kth : kdG th = 2) (h0 : F_X2_greatestSteadyQuality σ th a1 = some o) : MF l yX2_greatestSteadyQuality cX2_greatestSteadyQuality 4 (some .int) 5 123 D cA B S [.ref (B + th), .int a1] σ o.1 (some (.int o.2)) := by
  refine MF.of (by decide +kernel) (Nat.le_of_ble_eq_true rfl) ?_
  intro p e s m args below meth c C hr w ls hl
  have hl : lv_has ls 4 [(0, .ref (B + th)), (1, .int a1)] := hl
  have B_17 : ∀ (n17 : Nat) (σ : GS) (v2 : Int32) (H : Heap) (locs : List Loc) (ls : Array Slot), L_X2_greatestSteadyQuality_17 th a1 n17 σ v2 = some o → WS D cA B S σ s H locs → lv_has ls 4 [(0, .ref (B + th)), (1, .int a1), (2, .int v2)] → W p l e (rmF 5 123) s m args below meth c H locs 0 0 (MQ below (QF D cA B S o.1 (some (.int o.2))) args s 0 0 (AB B S)) (F0 m 17 ls []) := by
    intro n17
    induction n17 with
    | zero => intro σ v2 H locs ls h; exact nomatch (show (none : Option (GS × Int32)) = some o from h)
    | succ n17 ih17 =>
      have B_23 : ∀ (n23 : Nat) (σ : GS) (v2 : Int32) (v3 : Int32) (H : Heap) (locs : List Loc) (ls : Array Slot), L_X2_greatestSteadyQuality_23 (L_X2_greatestSteadyQuality_17 th a1 n17) th a1 n23 σ v2 v3 = some o → WS D cA B S σ s H locs → lv_has ls 4 [(0, .ref (B + th)), (1, .int a1), (2, .int v2), (3, .int v3)] → W p l e (rmF 5 123) s m args below meth c H locs 0 0 (MQ below (QF D cA B S o.1 (some (.int o.2))) args s 0 0 (AB B S)) (F0 m 23 ls []) := by
        intro n23
        induction n23 with
        | zero => intro σ v2 v3 H locs ls h; exact nomatch (show (none : Option (GS × Int32)) = some o from h)
        | succ n23 ih23 =>
          intro σ v2 v3 H locs ls h  w hl
          unfold L_X2_greatestSteadyQuality_23 at h
          refine lv_iload_n C.1 C.2.1 dX2_greatestSteadyQuality_23 rfl (lv_at hl 3 rfl) ?_
          refine lv_aload_n C.1 C.2.1 dX2_greatestSteadyQuality_24 rfl (lv_at hl 0 rfl) ?_
          refine g_getR C w fl_X2_9 sth kth (by decide) kt_2_3 (fun _ _ _ => rfl) dX2_greatestSteadyQuality_25 (fun s5 k5 => ?_)
          refine g_alen C w s5 k5 (by decide) (by decide) dX2_greatestSteadyQuality_28 ?_
          refine lv_icmp_ge (tgt := 45) C.1 C.2.1 dX2_greatestSteadyQuality_29 (by decide) (fun hc => ?_) (fun hc => ?_)
          · have h := (if_pos hc).symm.trans h
            refine lv_aload_n C.1 C.2.1 dX2_greatestSteadyQuality_45 rfl (lv_at hl 0 rfl) ?_
            refine lv_aload_n C.1 C.2.1 dX2_greatestSteadyQuality_46 rfl (lv_at hl 0 rfl) ?_
            refine g_getR C w fl_X2_15 sth kth (by decide) kt_2_0 (fun _ _ _ => rfl) dX2_greatestSteadyQuality_47 (fun s6 k6 => ?_)
            refine lv_iload_n C.1 C.2.1 dX2_greatestSteadyQuality_50 rfl (lv_at hl 1 rfl) ?_
            obtain ⟨o7, ho7, h⟩ := g_bd h
            refine g_callV (n := 2) (As := [.ref (B + (rfG th 0)), .int a1]) (rest := []) C w (m_X2_isSteady sth kth s6 k6 ho7) (cl_2).1 sth kth (by decide) ml_X2_60 iy_X2_isSteady sy_X2_isSteady in_X2 cy_X2_isSteady ⟨rfl, by decide +kernel, by decide +kernel, by decide +kernel⟩ rfl ⟨Nat.le_of_ble_eq_true rfl, Nat.le_of_ble_eq_true rfl⟩ rfl (Nat.le_of_ble_eq_true rfl) hl.1 ⟨Nat.le_of_ble_eq_true rfl, Nat.le_of_ble_eq_true rfl⟩ dX2_greatestSteadyQuality_51 (fun H locs w => ?_)
            refine lv_if_eq (tgt := 59) C.1 C.2.1 dX2_greatestSteadyQuality_54 (by decide) (fun hc => ?_) (fun hc => ?_)
            · have h := (if_pos hc).symm.trans h
              refine lv_iinc (k := 2) (v := v2 + (-1)) (lv' := [(2, .int (v2 + (-1))), (0, .ref (B + th)), (1, .int a1), (3, .int v3)]) C.1 C.2.1 dX2_greatestSteadyQuality_59 hl rfl rfl (by decide) rfl (fun ls hl => ?_)
              refine lv_goto (tgt := 17) C.1 C.2.1 dX2_greatestSteadyQuality_62 (by decide) ?_
              exact ih17 _ _ _ _ _ h w (show lv_has ls 4 [(0, .ref (B + th)), (1, .int a1), (2, .int (v2 + (-1)))] from lv_sub hl [1, 2, 0] rfl)
            · have h := (if_neg hc).symm.trans h
              refine lv_iload_n C.1 C.2.1 dX2_greatestSteadyQuality_57 rfl (lv_at hl 2 rfl) ?_
              exact g_iretB C w hr dX2_greatestSteadyQuality_58 h
          · have h := (if_neg hc).symm.trans h
            refine lv_aload_n C.1 C.2.1 dX2_greatestSteadyQuality_32 rfl (lv_at hl 0 rfl) ?_
            refine g_getR C w fl_X2_9 sth kth (by decide) kt_2_3 (fun _ _ _ => rfl) dX2_greatestSteadyQuality_33 (fun s8 k8 => ?_)
            refine lv_iload_n C.1 C.2.1 dX2_greatestSteadyQuality_36 rfl (lv_at hl 3 rfl) ?_
            refine lv_iload_n C.1 C.2.1 dX2_greatestSteadyQuality_37 rfl (lv_at hl 2 rfl) ?_
            obtain ⟨hb, h⟩ := g_ob h
            refine g_iast C w s8 k8 hb dX2_greatestSteadyQuality_38 (fun H locs w => ?_)
            refine lv_iinc (k := 3) (v := v3 + 1) (lv' := [(3, .int (v3 + 1)), (0, .ref (B + th)), (1, .int a1), (2, .int v2)]) C.1 C.2.1 dX2_greatestSteadyQuality_39 hl rfl rfl (by decide) rfl (fun ls hl => ?_)
            refine lv_goto (tgt := 23) C.1 C.2.1 dX2_greatestSteadyQuality_42 (by decide) ?_
            exact ih23 _ _ _ _ _ _ h w (show lv_has ls 4 [(0, .ref (B + th)), (1, .int a1), (2, .int v2), (3, .int (v3 + 1))] from lv_sub hl [1, 2, 3, 0] rfl)
      intro σ v2 H locs ls h  w hl
      unfold L_X2_greatestSteadyQuality_17 at h
      refine lv_iload_n C.1 C.2.1 dX2_greatestSteadyQuality_17 rfl (lv_at hl 2 rfl) ?_
      refine lv_if_lt (tgt := 65) C.1 C.2.1 dX2_greatestSteadyQuality_18 (by decide) (fun hc => ?_) (fun hc => ?_)
      · have h := (if_pos hc).symm.trans h
        refine lv_iconst (v := (-1)) C.1 C.2.1 dX2_greatestSteadyQuality_65 (by decide) ?_
        exact g_iretB C w hr dX2_greatestSteadyQuality_66 h
      · have h := (if_neg hc).symm.trans h
        refine lv_iconst (v := 0) C.1 C.2.1 dX2_greatestSteadyQuality_21 (by decide) ?_
        refine lv_istore_n (lv' := [(3, .int 0), (0, .ref (B + th)), (1, .int a1), (2, .int v2)]) C.1 C.2.1 dX2_greatestSteadyQuality_22 rfl hl (by decide) rfl (fun ls hl => ?_)
        exact B_23 _ _ _ _ _ _ _ h w (show lv_has ls 4 [(0, .ref (B + th)), (1, .int a1), (2, .int v2), (3, .int 0)] from lv_sub hl [1, 2, 3, 0] rfl)
  have h := h0
  unfold F_X2_greatestSteadyQuality at h
  refine lv_aload_n C.1 C.2.1 dX2_greatestSteadyQuality_0 rfl (lv_at hl 0 rfl) ?_
  refine g_getR C w fl_X2_15 sth kth (by decide) kt_2_0 (fun _ _ _ => rfl) dX2_greatestSteadyQuality_1 (fun s1 k1 => ?_)
  refine lv_iload_n C.1 C.2.1 dX2_greatestSteadyQuality_4 rfl (lv_at hl 1 rfl) ?_
  obtain ⟨o2, ho2, h⟩ := g_bd h
  refine g_callV (n := 1) (As := [.int a1]) (rest := []) C w (m_X5_seat s1 k1 ho2) (cl_5).1 s1 k1 (by decide) ml_X2_44 iy_X5_seat sy_X5_seat in_X5 cy_X5_seat ⟨rfl, by decide +kernel, by decide +kernel, by decide +kernel⟩ rfl ⟨Nat.le_of_ble_eq_true rfl, Nat.le_of_ble_eq_true rfl⟩ rfl (Nat.le_of_ble_eq_true rfl) hl.1 ⟨Nat.le_of_ble_eq_true rfl, Nat.le_of_ble_eq_true rfl⟩ dX2_greatestSteadyQuality_5 (fun H locs w => ?_)
  have ⟨s3, k3⟩ := r_X5_seat w.2.1 s1 k1 ho2
  refine g_getR C w fl_X2_48 s3 k3 (by decide) kt_3_1 (fun _ _ _ => rfl) dX2_greatestSteadyQuality_8 (fun s4 k4 => ?_)
  refine g_getI C w fl_X2_54 s4 k4 (by decide) (fun _ _ _ => rfl) dX2_greatestSteadyQuality_11 ?_
  refine lv_iconst (v := 1) C.1 C.2.1 dX2_greatestSteadyQuality_14 (by decide) ?_
  refine lv_isub C.1 C.2.1 dX2_greatestSteadyQuality_15 ?_
  refine lv_istore_n (lv' := [(2, .int ((gI σ (rfG o2 1) 6) - 1)), (0, .ref (B + th)), (1, .int a1)]) C.1 C.2.1 dX2_greatestSteadyQuality_16 rfl hl (by decide) rfl (fun ls hl => ?_)
  exact B_17 _ _ _ _ _ _ h w (show lv_has ls 4 [(0, .ref (B + th)), (1, .int a1), (2, .int ((gI σ (rfG o2 1) 6) - 1))] from lv_sub hl [1, 2, 0] rfl)

set_option maxHeartbeats 4000000 in
set_option maxRecDepth 100000 in
theorem m_X2_leastSteadyRate {l : Launch} {D : va_G} {cA : Nat → ClassId} {B : Nat} {S : Nat → Prop} {σ : GS} {th : Nat} {o : GS × Int32} (sth : S th) (kth : kdG th = 2) (h0 : F_X2_leastSteadyRate σ th = some o) : MF l yX2_leastSteadyRate cX2_leastSteadyRate 2 (some .int) 5 121 D cA B S [.ref (B + th)] σ o.1 (some (.int o.2)) := by
  refine MF.of (by decide +kernel) (Nat.le_of_ble_eq_true rfl) ?_
  intro p e s m args below meth c C hr w ls hl
  have hl : lv_has ls 2 [(0, .ref (B + th))] := hl
  have B_2 : ∀ (n2 : Nat) (σ : GS) (v1 : Int32) (H : Heap) (locs : List Loc) (ls : Array Slot), L_X2_leastSteadyRate_2 th n2 σ v1 = some o → WS D cA B S σ s H locs → lv_has ls 2 [(0, .ref (B + th)), (1, .int v1)] → W p l e (rmF 5 121) s m args below meth c H locs 0 0 (MQ below (QF D cA B S o.1 (some (.int o.2))) args s 0 0 (AB B S)) (F0 m 2 ls []) := by
    intro n2
    induction n2 with
    | zero => intro σ v1 H locs ls h; exact nomatch (show (none : Option (GS × Int32)) = some o from h)
    | succ n2 ih2 =>
      intro σ v1 H locs ls h  w hl
      unfold L_X2_leastSteadyRate_2 at h
      refine lv_iload_n C.1 C.2.1 dX2_leastSteadyRate_2 rfl (lv_at hl 1 rfl) ?_
      refine lv_sipush (v := 9900) C.1 C.2.1 dX2_leastSteadyRate_3 (by decide) ?_
      refine lv_icmp_gt (tgt := 25) C.1 C.2.1 dX2_leastSteadyRate_6 (by decide) (fun hc => ?_) (fun hc => ?_)
      · have h := (if_pos hc).symm.trans h
        refine lv_iconst (v := (-1)) C.1 C.2.1 dX2_leastSteadyRate_25 (by decide) ?_
        exact g_iretB C w hr dX2_leastSteadyRate_26 h
      · have h := (if_neg hc).symm.trans h
        refine lv_aload_n C.1 C.2.1 dX2_leastSteadyRate_9 rfl (lv_at hl 0 rfl) ?_
        refine lv_iload_n C.1 C.2.1 dX2_leastSteadyRate_10 rfl (lv_at hl 1 rfl) ?_
        obtain ⟨o1, ho1, h⟩ := g_bd h
        refine g_callV (n := 1) (As := [.int v1]) (rest := []) C w (m_X2_isSteadyAt sth kth ho1) (cl_2).1 sth kth (by decide) ml_X2_65 iy_X2_isSteadyAt sy_X2_isSteadyAt in_X2 cy_X2_isSteadyAt ⟨rfl, by decide +kernel, by decide +kernel, by decide +kernel⟩ rfl ⟨Nat.le_of_ble_eq_true rfl, Nat.le_of_ble_eq_true rfl⟩ rfl (Nat.le_of_ble_eq_true rfl) hl.1 ⟨Nat.le_of_ble_eq_true rfl, Nat.le_of_ble_eq_true rfl⟩ dX2_leastSteadyRate_11 (fun H locs w => ?_)
        refine lv_if_eq (tgt := 19) C.1 C.2.1 dX2_leastSteadyRate_14 (by decide) (fun hc => ?_) (fun hc => ?_)
        · have h := (if_pos hc).symm.trans h
          refine lv_iinc (k := 1) (v := v1 + 100) (lv' := [(1, .int (v1 + 100)), (0, .ref (B + th))]) C.1 C.2.1 dX2_leastSteadyRate_19 hl rfl rfl (by decide) rfl (fun ls hl => ?_)
          refine lv_goto (tgt := 2) C.1 C.2.1 dX2_leastSteadyRate_22 (by decide) ?_
          exact ih2 _ _ _ _ _ h w (show lv_has ls 2 [(0, .ref (B + th)), (1, .int (v1 + 100))] from lv_sub hl [1, 0] rfl)
        · have h := (if_neg hc).symm.trans h
          refine lv_iload_n C.1 C.2.1 dX2_leastSteadyRate_17 rfl (lv_at hl 1 rfl) ?_
          exact g_iretB C w hr dX2_leastSteadyRate_18 h
  have h := h0
  unfold F_X2_leastSteadyRate at h
  refine lv_iconst (v := 0) C.1 C.2.1 dX2_leastSteadyRate_0 (by decide) ?_
  refine lv_istore_n (lv' := [(1, .int 0), (0, .ref (B + th))]) C.1 C.2.1 dX2_leastSteadyRate_1 rfl hl (by decide) rfl (fun ls hl => ?_)
  exact B_2 _ _ _ _ _ _ h w (show lv_has ls 2 [(0, .ref (B + th)), (1, .int 0)] from lv_sub hl [1, 0] rfl)

set_option maxHeartbeats 4000000 in
set_option maxRecDepth 100000 in
theorem m_X2_planAsOracle {l : Launch} {D : va_G} {cA : Nat → ClassId} {B : Nat} {S : Nat → Prop} {σ : GS} {th : Nat} {a1 : Int32} {a2 : Int32} {o : GS} (sth : S th) (kth : kdG th = 2) (h0 : F_X2_planAsOracle σ th a1 a2 = some o) : MF l yX2_planAsOracle cX2_planAsOracle 7 none 5 123 D cA B S [.ref (B + th), .int a1, .int a2] σ o none := by
  refine MF.of (by decide +kernel) (Nat.le_of_ble_eq_true rfl) ?_
  intro p e s m args below meth c C hr w ls hl
  have hl : lv_has ls 7 [(0, .ref (B + th)), (1, .int a1), (2, .int a2)] := hl
  have B_47 : ∀ (n47 : Nat) (σ : GS) (v3 : Nat) (v4 : Int32) (v5 : Int32) (H : Heap) (locs : List Loc) (ls : Array Slot), L_X2_planAsOracle_47 th a1 a2 n47 σ v3 v4 v5 = some o → S v3 → kdG v3 = 3 → WS D cA B S σ s H locs → lv_has ls 7 [(0, .ref (B + th)), (1, .int a1), (2, .int a2), (3, .ref (B + v3)), (4, .int v4), (5, .int v5)] → W p l e (rmF 5 123) s m args below meth c H locs 0 0 (MQ below (QF D cA B S o none) args s 0 0 (AB B S)) (F0 m 47 ls []) := by
    intro n47
    induction n47 with
    | zero => intro σ v3 v4 v5 H locs ls h; exact nomatch (show (none : Option (GS)) = some o from h)
    | succ n47 ih47 =>
      have B_145 : ∀ (n145 : Nat) (σ : GS) (v3 : Nat) (v4 : Int32) (v5 : Int32) (v6 : Int32) (H : Heap) (locs : List Loc) (ls : Array Slot), L_X2_planAsOracle_145 (L_X2_planAsOracle_47 th a1 a2 n47) th a1 a2 n145 σ v3 v4 v5 v6 = some o → S v3 → kdG v3 = 3 → WS D cA B S σ s H locs → lv_has ls 7 [(0, .ref (B + th)), (1, .int a1), (2, .int a2), (3, .ref (B + v3)), (4, .int v4), (5, .int v5), (6, .int v6)] → W p l e (rmF 5 123) s m args below meth c H locs 0 0 (MQ below (QF D cA B S o none) args s 0 0 (AB B S)) (F0 m 145 ls []) := by
        intro n145
        induction n145 with
        | zero => intro σ v3 v4 v5 v6 H locs ls h; exact nomatch (show (none : Option (GS)) = some o from h)
        | succ n145 ih145 =>
          intro σ v3 v4 v5 v6 H locs ls h sv3 kv3 w hl
          unfold L_X2_planAsOracle_145 at h
          refine lv_iload C.1 C.2.1 dX2_planAsOracle_145 (lv_at hl 6 rfl) ?_
          refine lv_if_le (tgt := 177) C.1 C.2.1 dX2_planAsOracle_147 (by decide) (fun hc => ?_) (fun hc => ?_)
          · have h := (if_pos hc).symm.trans h
            refine lv_aload_n C.1 C.2.1 dX2_planAsOracle_177 rfl (lv_at hl 0 rfl) ?_
            refine g_getR C w fl_X2_28 sth kth (by decide) kt_2_1 (fun _ _ _ => rfl) dX2_planAsOracle_178 (fun s21 k21 => ?_)
            obtain ⟨o22, ho22, h⟩ := g_bd h
            refine g_callV (n := 0) (As := []) (rest := []) C w (m_X5_passTick s21 k21 ho22) (cl_5).1 s21 k21 (by decide) ml_X2_38 iy_X5_passTick sy_X5_passTick in_X5 cy_X5_passTick ⟨rfl, by decide +kernel, by decide +kernel, by decide +kernel⟩ rfl ⟨Nat.le_of_ble_eq_true rfl, Nat.le_of_ble_eq_true rfl⟩ rfl (Nat.le_of_ble_eq_true rfl) hl.1 ⟨Nat.le_of_ble_eq_true rfl, Nat.le_of_ble_eq_true rfl⟩ dX2_planAsOracle_181 (fun H locs w => ?_)
            refine lv_iinc (k := 5) (v := v5 + 1) (lv' := [(5, .int (v5 + 1)), (0, .ref (B + th)), (1, .int a1), (2, .int a2), (3, .ref (B + v3)), (4, .int v4), (6, .int v6)]) C.1 C.2.1 dX2_planAsOracle_184 hl rfl rfl (by decide) rfl (fun ls hl => ?_)
            refine lv_goto (tgt := 47) C.1 C.2.1 dX2_planAsOracle_187 (by decide) ?_
            exact ih47 _ _ _ _ _ _ _ h sv3 kv3 w (show lv_has ls 7 [(0, .ref (B + th)), (1, .int a1), (2, .int a2), (3, .ref (B + v3)), (4, .int v4), (5, .int (v5 + 1))] from lv_sub hl [1, 2, 3, 4, 5, 0] rfl)
          · have h := (if_neg hc).symm.trans h
            refine lv_aload_n C.1 C.2.1 dX2_planAsOracle_150 rfl (lv_at hl 0 rfl) ?_
            refine lv_aload_n C.1 C.2.1 dX2_planAsOracle_151 rfl (lv_at hl 0 rfl) ?_
            refine g_getR C w fl_X2_28 sth kth (by decide) kt_2_1 (fun _ _ _ => rfl) dX2_planAsOracle_152 (fun s23 k23 => ?_)
            refine lv_iload_n C.1 C.2.1 dX2_planAsOracle_155 rfl (lv_at hl 1 rfl) ?_
            obtain ⟨o24, ho24, h⟩ := g_bd h
            refine g_callV (n := 2) (As := [.ref (B + (rfG th 1)), .int a1]) (rest := []) C w (m_X2_isSteady sth kth s23 k23 ho24) (cl_2).1 sth kth (by decide) ml_X2_60 iy_X2_isSteady sy_X2_isSteady in_X2 cy_X2_isSteady ⟨rfl, by decide +kernel, by decide +kernel, by decide +kernel⟩ rfl ⟨Nat.le_of_ble_eq_true rfl, Nat.le_of_ble_eq_true rfl⟩ rfl (Nat.le_of_ble_eq_true rfl) hl.1 ⟨Nat.le_of_ble_eq_true rfl, Nat.le_of_ble_eq_true rfl⟩ dX2_planAsOracle_156 (fun H locs w => ?_)
            refine lv_if_ne (tgt := 177) C.1 C.2.1 dX2_planAsOracle_159 (by decide) (fun hc => ?_) (fun hc => ?_)
            · have h := (if_neg hc).symm.trans h
              refine lv_aload_n C.1 C.2.1 dX2_planAsOracle_177 rfl (lv_at hl 0 rfl) ?_
              refine g_getR C w fl_X2_28 sth kth (by decide) kt_2_1 (fun _ _ _ => rfl) dX2_planAsOracle_178 (fun s25 k25 => ?_)
              obtain ⟨o26, ho26, h⟩ := g_bd h
              refine g_callV (n := 0) (As := []) (rest := []) C w (m_X5_passTick s25 k25 ho26) (cl_5).1 s25 k25 (by decide) ml_X2_38 iy_X5_passTick sy_X5_passTick in_X5 cy_X5_passTick ⟨rfl, by decide +kernel, by decide +kernel, by decide +kernel⟩ rfl ⟨Nat.le_of_ble_eq_true rfl, Nat.le_of_ble_eq_true rfl⟩ rfl (Nat.le_of_ble_eq_true rfl) hl.1 ⟨Nat.le_of_ble_eq_true rfl, Nat.le_of_ble_eq_true rfl⟩ dX2_planAsOracle_181 (fun H locs w => ?_)
              refine lv_iinc (k := 5) (v := v5 + 1) (lv' := [(5, .int (v5 + 1)), (0, .ref (B + th)), (1, .int a1), (2, .int a2), (3, .ref (B + v3)), (4, .int v4), (6, .int v6)]) C.1 C.2.1 dX2_planAsOracle_184 hl rfl rfl (by decide) rfl (fun ls hl => ?_)
              refine lv_goto (tgt := 47) C.1 C.2.1 dX2_planAsOracle_187 (by decide) ?_
              exact ih47 _ _ _ _ _ _ _ h sv3 kv3 w (show lv_has ls 7 [(0, .ref (B + th)), (1, .int a1), (2, .int a2), (3, .ref (B + v3)), (4, .int v4), (5, .int (v5 + 1))] from lv_sub hl [1, 2, 3, 4, 5, 0] rfl)
            · have h := (if_pos hc).symm.trans h
              refine lv_iinc (k := 6) (v := v6 + (-1)) (lv' := [(6, .int (v6 + (-1))), (0, .ref (B + th)), (1, .int a1), (2, .int a2), (3, .ref (B + v3)), (4, .int v4), (5, .int v5)]) C.1 C.2.1 dX2_planAsOracle_162 hl rfl rfl (by decide) rfl (fun ls hl => ?_)
              refine lv_aload_n C.1 C.2.1 dX2_planAsOracle_165 rfl (lv_at hl 1 rfl) ?_
              refine g_getR C w fl_X2_9 sth kth (by decide) kt_2_3 (fun _ _ _ => rfl) dX2_planAsOracle_166 (fun s27 k27 => ?_)
              refine lv_iload C.1 C.2.1 dX2_planAsOracle_169 (lv_at hl 6 rfl) ?_
              refine lv_iload C.1 C.2.1 dX2_planAsOracle_171 (lv_at hl 0 rfl) ?_
              obtain ⟨hb, h⟩ := g_ob h
              refine g_iast C w s27 k27 hb dX2_planAsOracle_173 (fun H locs w => ?_)
              refine lv_goto (tgt := 145) C.1 C.2.1 dX2_planAsOracle_174 (by decide) ?_
              exact ih145 _ _ _ _ _ _ _ _ h sv3 kv3 w (show lv_has ls 7 [(0, .ref (B + th)), (1, .int a1), (2, .int a2), (3, .ref (B + v3)), (4, .int v4), (5, .int v5), (6, .int (v6 + (-1)))] from lv_sub hl [1, 2, 3, 4, 5, 6, 0] rfl)
      have B_102 : ∀ (σ : GS) (v3 : Nat) (v4 : Int32) (v5 : Int32) (H : Heap) (locs : List Loc) (ls : Array Slot), J_X2_planAsOracle_102 (L_X2_planAsOracle_47 th a1 a2 n47) th a1 a2 σ v3 v4 v5 = some o → S v3 → kdG v3 = 3 → WS D cA B S σ s H locs → lv_has ls 7 [(0, .ref (B + th)), (1, .int a1), (2, .int a2), (3, .ref (B + v3)), (4, .int v4), (5, .int v5)] → W p l e (rmF 5 123) s m args below meth c H locs 0 0 (MQ below (QF D cA B S o none) args s 0 0 (AB B S)) (F0 m 102 ls []) := by
        intro σ v3 v4 v5 H locs ls h sv3 kv3 w hl
        unfold J_X2_planAsOracle_102 at h
        refine lv_aload_n C.1 C.2.1 dX2_planAsOracle_102 rfl (lv_at hl 0 rfl) ?_
        refine g_getR C w fl_X2_28 sth kth (by decide) kt_2_1 (fun _ _ _ => rfl) dX2_planAsOracle_103 (fun s17 k17 => ?_)
        refine g_getI C w fl_X2_80 s17 k17 (by decide) (fun _ _ _ => rfl) dX2_planAsOracle_106 ?_
        refine lv_sipush (v := 2000) C.1 C.2.1 dX2_planAsOracle_109 (by decide) ?_
        refine lv_icmp_ge (tgt := 124) C.1 C.2.1 dX2_planAsOracle_112 (by decide) (fun hc => ?_) (fun hc => ?_)
        · have h := (if_pos hc).symm.trans h
          exact g_vretV C w hr dX2_planAsOracle_124 h
        · have h := (if_neg hc).symm.trans h
          refine lv_aload_n C.1 C.2.1 dX2_planAsOracle_115 rfl (lv_at hl 3 rfl) ?_
          refine g_getI C w fl_X2_73 sv3 kv3 (by decide) (fun _ _ _ => rfl) dX2_planAsOracle_116 ?_
          refine lv_iload C.1 C.2.1 dX2_planAsOracle_119 (lv_at hl 4 rfl) ?_
          refine lv_icmp_le (tgt := 125) C.1 C.2.1 dX2_planAsOracle_121 (by decide) (fun hc => ?_) (fun hc => ?_)
          · have h := (if_pos hc).symm.trans h
            refine lv_aload_n C.1 C.2.1 dX2_planAsOracle_125 rfl (lv_at hl 3 rfl) ?_
            refine g_getR C w fl_X2_48 sv3 kv3 (by decide) kt_3_1 (fun _ _ _ => rfl) dX2_planAsOracle_126 (fun s18 k18 => ?_)
            refine g_getI C w fl_X2_54 s18 k18 (by decide) (fun _ _ _ => rfl) dX2_planAsOracle_129 ?_
            refine lv_iconst (v := 1) C.1 C.2.1 dX2_planAsOracle_132 (by decide) ?_
            refine lv_isub C.1 C.2.1 dX2_planAsOracle_133 ?_
            refine lv_istore (lv' := [(6, .int ((gI σ (rfG v3 1) 6) - 1)), (0, .ref (B + th)), (1, .int a1), (2, .int a2), (3, .ref (B + v3)), (4, .int v4), (5, .int v5)]) C.1 C.2.1 dX2_planAsOracle_134 hl (by decide) rfl (fun ls hl => ?_)
            refine lv_aload_n C.1 C.2.1 dX2_planAsOracle_136 rfl (lv_at hl 1 rfl) ?_
            refine g_getR C w fl_X2_9 sth kth (by decide) kt_2_3 (fun _ _ _ => rfl) dX2_planAsOracle_137 (fun s19 k19 => ?_)
            refine lv_iload C.1 C.2.1 dX2_planAsOracle_140 (lv_at hl 6 rfl) ?_
            refine lv_iload C.1 C.2.1 dX2_planAsOracle_142 (lv_at hl 0 rfl) ?_
            obtain ⟨hb, h⟩ := g_ob h
            refine g_iast C w s19 k19 hb dX2_planAsOracle_144 (fun H locs w => ?_)
            exact B_145 _ _ _ _ _ _ _ _ _ h sv3 kv3 w (show lv_has ls 7 [(0, .ref (B + th)), (1, .int a1), (2, .int a2), (3, .ref (B + v3)), (4, .int v4), (5, .int v5), (6, .int ((gI σ (rfG v3 1) 6) - 1))] from lv_sub hl [1, 2, 3, 4, 5, 6, 0] rfl)
          · have h := (if_neg hc).symm.trans h
            exact g_vretV C w hr dX2_planAsOracle_124 h
      have B_72 : ∀ (n72 : Nat) (σ : GS) (v3 : Nat) (v4 : Int32) (v5 : Int32) (v6 : Int32) (H : Heap) (locs : List Loc) (ls : Array Slot), L_X2_planAsOracle_72 (L_X2_planAsOracle_47 th a1 a2 n47) th a1 a2 n72 σ v3 v4 v5 v6 = some o → S v3 → kdG v3 = 3 → WS D cA B S σ s H locs → lv_has ls 7 [(0, .ref (B + th)), (1, .int a1), (2, .int a2), (3, .ref (B + v3)), (4, .int v4), (5, .int v5), (6, .int v6)] → W p l e (rmF 5 123) s m args below meth c H locs 0 0 (MQ below (QF D cA B S o none) args s 0 0 (AB B S)) (F0 m 72 ls []) := by
        intro n72
        induction n72 with
        | zero => intro σ v3 v4 v5 v6 H locs ls h; exact nomatch (show (none : Option (GS)) = some o from h)
        | succ n72 ih72 =>
          intro σ v3 v4 v5 v6 H locs ls h sv3 kv3 w hl
          unfold L_X2_planAsOracle_72 at h
          refine lv_iload C.1 C.2.1 dX2_planAsOracle_72 (lv_at hl 6 rfl) ?_
          refine lv_sipush (v := 2000) C.1 C.2.1 dX2_planAsOracle_74 (by decide) ?_
          refine lv_icmp_ge (tgt := 102) C.1 C.2.1 dX2_planAsOracle_77 (by decide) (fun hc => ?_) (fun hc => ?_)
          · have h := (if_pos hc).symm.trans h
            exact B_102 _ _ _ _ _ _ _ h sv3 kv3 w (show lv_has ls 7 [(0, .ref (B + th)), (1, .int a1), (2, .int a2), (3, .ref (B + v3)), (4, .int v4), (5, .int v5)] from lv_sub hl [0, 1, 2, 3, 4, 5] rfl)
          · have h := (if_neg hc).symm.trans h
            refine lv_aload_n C.1 C.2.1 dX2_planAsOracle_80 rfl (lv_at hl 3 rfl) ?_
            refine lv_iload C.1 C.2.1 dX2_planAsOracle_81 (lv_at hl 6 rfl) ?_
            obtain ⟨o14, ho14, h⟩ := g_bd h
            refine g_callV (n := 1) (As := [.int v6]) (rest := []) C w (m_X3_canAsk sv3 kv3 ho14) (cl_3).1 sv3 kv3 (by decide) ml_X2_83 iy_X3_canAsk sy_X3_canAsk in_X3 cy_X3_canAsk ⟨rfl, by decide +kernel, by decide +kernel, by decide +kernel⟩ rfl ⟨Nat.le_of_ble_eq_true rfl, Nat.le_of_ble_eq_true rfl⟩ rfl (Nat.le_of_ble_eq_true rfl) hl.1 ⟨Nat.le_of_ble_eq_true rfl, Nat.le_of_ble_eq_true rfl⟩ dX2_planAsOracle_83 (fun H locs w => ?_)
            refine lv_if_ne (tgt := 102) C.1 C.2.1 dX2_planAsOracle_86 (by decide) (fun hc => ?_) (fun hc => ?_)
            · have h := (if_neg hc).symm.trans h
              exact B_102 _ _ _ _ _ _ _ h sv3 kv3 w (show lv_has ls 7 [(0, .ref (B + th)), (1, .int a1), (2, .int a2), (3, .ref (B + v3)), (4, .int v4), (5, .int v5)] from lv_sub hl [0, 1, 2, 3, 4, 5] rfl)
            · have h := (if_pos hc).symm.trans h
              refine lv_aload_n C.1 C.2.1 dX2_planAsOracle_89 rfl (lv_at hl 0 rfl) ?_
              refine g_getR C w fl_X2_28 sth kth (by decide) kt_2_1 (fun _ _ _ => rfl) dX2_planAsOracle_90 (fun s15 k15 => ?_)
              obtain ⟨o16, ho16, h⟩ := g_bd h
              refine g_callV (n := 0) (As := []) (rest := []) C w (m_X5_passTick s15 k15 ho16) (cl_5).1 s15 k15 (by decide) ml_X2_38 iy_X5_passTick sy_X5_passTick in_X5 cy_X5_passTick ⟨rfl, by decide +kernel, by decide +kernel, by decide +kernel⟩ rfl ⟨Nat.le_of_ble_eq_true rfl, Nat.le_of_ble_eq_true rfl⟩ rfl (Nat.le_of_ble_eq_true rfl) hl.1 ⟨Nat.le_of_ble_eq_true rfl, Nat.le_of_ble_eq_true rfl⟩ dX2_planAsOracle_93 (fun H locs w => ?_)
              refine lv_iinc (k := 6) (v := v6 + 1) (lv' := [(6, .int (v6 + 1)), (0, .ref (B + th)), (1, .int a1), (2, .int a2), (3, .ref (B + v3)), (4, .int v4), (5, .int v5)]) C.1 C.2.1 dX2_planAsOracle_96 hl rfl rfl (by decide) rfl (fun ls hl => ?_)
              refine lv_goto (tgt := 72) C.1 C.2.1 dX2_planAsOracle_99 (by decide) ?_
              exact ih72 _ _ _ _ _ _ _ _ h sv3 kv3 w (show lv_has ls 7 [(0, .ref (B + th)), (1, .int a1), (2, .int a2), (3, .ref (B + v3)), (4, .int v4), (5, .int v5), (6, .int (v6 + 1))] from lv_sub hl [1, 2, 3, 4, 5, 6, 0] rfl)
      intro σ v3 v4 v5 H locs ls h sv3 kv3 w hl
      unfold L_X2_planAsOracle_47 at h
      refine lv_iload C.1 C.2.1 dX2_planAsOracle_47 (lv_at hl 5 rfl) ?_
      refine lv_iload_n C.1 C.2.1 dX2_planAsOracle_49 rfl (lv_at hl 2 rfl) ?_
      refine lv_icmp_gt (tgt := 190) C.1 C.2.1 dX2_planAsOracle_50 (by decide) (fun hc => ?_) (fun hc => ?_)
      · have h := (if_pos hc).symm.trans h
        exact g_vretV C w hr dX2_planAsOracle_190 h
      · have h := (if_neg hc).symm.trans h
        refine lv_iload C.1 C.2.1 dX2_planAsOracle_53 (lv_at hl 5 rfl) ?_
        refine lv_aload_n C.1 C.2.1 dX2_planAsOracle_55 rfl (lv_at hl 0 rfl) ?_
        refine g_getR C w fl_X2_9 sth kth (by decide) kt_2_3 (fun _ _ _ => rfl) dX2_planAsOracle_56 (fun s12 k12 => ?_)
        refine g_alen C w s12 k12 (by decide) (by decide) dX2_planAsOracle_59 ?_
        refine lv_icmp_ge (tgt := 190) C.1 C.2.1 dX2_planAsOracle_60 (by decide) (fun hc => ?_) (fun hc => ?_)
        · have h := (if_pos hc).symm.trans h
          exact g_vretV C w hr dX2_planAsOracle_190 h
        · have h := (if_neg hc).symm.trans h
          refine lv_aload_n C.1 C.2.1 dX2_planAsOracle_63 rfl (lv_at hl 0 rfl) ?_
          refine g_getR C w fl_X2_28 sth kth (by decide) kt_2_1 (fun _ _ _ => rfl) dX2_planAsOracle_64 (fun s13 k13 => ?_)
          refine g_getI C w fl_X2_80 s13 k13 (by decide) (fun _ _ _ => rfl) dX2_planAsOracle_67 ?_
          refine lv_istore (lv' := [(6, .int (gI σ (rfG th 1) 3)), (0, .ref (B + th)), (1, .int a1), (2, .int a2), (3, .ref (B + v3)), (4, .int v4), (5, .int v5)]) C.1 C.2.1 dX2_planAsOracle_70 hl (by decide) rfl (fun ls hl => ?_)
          exact B_72 _ _ _ _ _ _ _ _ _ h sv3 kv3 w (show lv_has ls 7 [(0, .ref (B + th)), (1, .int a1), (2, .int a2), (3, .ref (B + v3)), (4, .int v4), (5, .int v5), (6, .int (gI σ (rfG th 1) 3))] from lv_sub hl [1, 2, 3, 4, 5, 6, 0] rfl)
  have h := h0
  unfold F_X2_planAsOracle at h
  refine lv_aload_n C.1 C.2.1 dX2_planAsOracle_0 rfl (lv_at hl 0 rfl) ?_
  refine g_getR C w fl_X2_9 sth kth (by decide) kt_2_3 (fun _ _ _ => rfl) dX2_planAsOracle_1 (fun s1 k1 => ?_)
  obtain ⟨o2, ho2, h⟩ := g_bd h
  refine g_callN (n := 1) (As := [.ref (B + (rfG th 3))]) (rest := []) C w (m_X7_clearRow s1 k1 ho2) nl_X2_69 iy_X7_clearRow in_X7 cy_X7_clearRow ⟨by decide +kernel, by decide +kernel, by decide +kernel⟩ rfl ⟨Nat.le_of_ble_eq_true rfl, Nat.le_of_ble_eq_true rfl⟩ rfl (Nat.le_of_ble_eq_true rfl) hl.1 ⟨Nat.le_of_ble_eq_true rfl, Nat.le_of_ble_eq_true rfl⟩ dX2_planAsOracle_4 (fun H locs w => ?_)
  refine lv_aload_n C.1 C.2.1 dX2_planAsOracle_7 rfl (lv_at hl 0 rfl) ?_
  refine g_getR C w fl_X2_28 sth kth (by decide) kt_2_1 (fun _ _ _ => rfl) dX2_planAsOracle_8 (fun s3 k3 => ?_)
  refine lv_aload_n C.1 C.2.1 dX2_planAsOracle_11 rfl (lv_at hl 0 rfl) ?_
  refine g_getR C w fl_X2_15 sth kth (by decide) kt_2_0 (fun _ _ _ => rfl) dX2_planAsOracle_12 (fun s4 k4 => ?_)
  obtain ⟨o5, ho5, h⟩ := g_bd h
  refine g_callV (n := 1) (As := [.ref (B + (rfG th 0))]) (rest := []) C w (m_X5_copyFrom s3 k3 s4 k4 ho5) (cl_5).1 s3 k3 (by decide) ml_X2_34 iy_X5_copyFrom sy_X5_copyFrom in_X5 cy_X5_copyFrom ⟨rfl, by decide +kernel, by decide +kernel, by decide +kernel⟩ rfl ⟨Nat.le_of_ble_eq_true rfl, Nat.le_of_ble_eq_true rfl⟩ rfl (Nat.le_of_ble_eq_true rfl) hl.1 ⟨Nat.le_of_ble_eq_true rfl, Nat.le_of_ble_eq_true rfl⟩ dX2_planAsOracle_15 (fun H locs w => ?_)
  refine lv_aload_n C.1 C.2.1 dX2_planAsOracle_18 rfl (lv_at hl 0 rfl) ?_
  refine g_getR C w fl_X2_28 sth kth (by decide) kt_2_1 (fun _ _ _ => rfl) dX2_planAsOracle_19 (fun s6 k6 => ?_)
  refine lv_iload_n C.1 C.2.1 dX2_planAsOracle_22 rfl (lv_at hl 1 rfl) ?_
  obtain ⟨o7, ho7, h⟩ := g_bd h
  refine g_callV (n := 1) (As := [.int a1]) (rest := []) C w (m_X5_seat s6 k6 ho7) (cl_5).1 s6 k6 (by decide) ml_X2_44 iy_X5_seat sy_X5_seat in_X5 cy_X5_seat ⟨rfl, by decide +kernel, by decide +kernel, by decide +kernel⟩ rfl ⟨Nat.le_of_ble_eq_true rfl, Nat.le_of_ble_eq_true rfl⟩ rfl (Nat.le_of_ble_eq_true rfl) hl.1 ⟨Nat.le_of_ble_eq_true rfl, Nat.le_of_ble_eq_true rfl⟩ dX2_planAsOracle_23 (fun H locs w => ?_)
  have ⟨s8, k8⟩ := r_X5_seat w.2.1 s6 k6 ho7
  refine lv_astore_n (lv' := [(3, .ref (B + o7)), (0, .ref (B + th)), (1, .int a1), (2, .int a2)]) C.1 C.2.1 dX2_planAsOracle_26 rfl hl (by decide) rfl (fun ls hl => ?_)
  refine lv_aload_n C.1 C.2.1 dX2_planAsOracle_27 rfl (lv_at hl 0 rfl) ?_
  refine lv_aload_n C.1 C.2.1 dX2_planAsOracle_28 rfl (lv_at hl 1 rfl) ?_
  refine g_getR C w fl_X2_9 sth kth (by decide) kt_2_3 (fun _ _ _ => rfl) dX2_planAsOracle_29 (fun s9 k9 => ?_)
  refine g_putR (v := some (rfG th 3)) C w fw_X2_64 s8 k8 (by decide) k0_3_18 (Or.inr ⟨congrArg some (k57 _ kth), (k57 _ kth) ▸ s9⟩) (fun _ _ _ => rfl) rfl rfl dX2_planAsOracle_32 (fun H locs w => ?_)
  refine lv_aload_n C.1 C.2.1 dX2_planAsOracle_35 rfl (lv_at hl 0 rfl) ?_
  refine g_getI C w fl_X2_73 s8 k8 (by decide) (fun _ _ _ => rfl) dX2_planAsOracle_36 ?_
  refine lv_istore (lv' := [(4, .int (gI (sR o5 o7 18 (some (rfG th 3))) o7 14)), (3, .ref (B + o7)), (0, .ref (B + th)), (1, .int a1), (2, .int a2)]) C.1 C.2.1 dX2_planAsOracle_39 hl (by decide) rfl (fun ls hl => ?_)
  refine lv_aload_n C.1 C.2.1 dX2_planAsOracle_41 rfl (lv_at hl 1 rfl) ?_
  obtain ⟨o11, ho11, h⟩ := g_bd h
  refine g_callV (n := 0) (As := []) (rest := []) C w (m_X3_segmentsAsked s8 k8 ho11) (cl_3).1 s8 k8 (by decide) ml_X2_76 iy_X3_segmentsAsked sy_X3_segmentsAsked in_X3 cy_X3_segmentsAsked ⟨rfl, by decide +kernel, by decide +kernel, by decide +kernel⟩ rfl ⟨Nat.le_of_ble_eq_true rfl, Nat.le_of_ble_eq_true rfl⟩ rfl (Nat.le_of_ble_eq_true rfl) hl.1 ⟨Nat.le_of_ble_eq_true rfl, Nat.le_of_ble_eq_true rfl⟩ dX2_planAsOracle_42 (fun H locs w => ?_)
  refine lv_istore (lv' := [(5, .int o11), (4, .int (gI (sR o5 o7 18 (some (rfG th 3))) o7 14)), (3, .ref (B + o7)), (0, .ref (B + th)), (1, .int a1), (2, .int a2)]) C.1 C.2.1 dX2_planAsOracle_45 hl (by decide) rfl (fun ls hl => ?_)
  exact B_47 _ _ _ _ _ _ _ _ h s8 k8 w (show lv_has ls 7 [(0, .ref (B + th)), (1, .int a1), (2, .int a2), (3, .ref (B + o7)), (4, .int (gI (sR o5 o7 18 (some (rfG th 3))) o7 14)), (5, .int o11)] from lv_sub hl [3, 4, 5, 2, 1, 0] rfl)

set_option maxHeartbeats 4000000 in
set_option maxRecDepth 100000 in
theorem m_X4_readStatement {l : Launch} {D : va_G} {cA : Nat → ClassId} {B : Nat} {S : Nat → Prop} {σ : GS} {th : Nat} {o : GS} (sth : S th) (kth : kdG th = 4) (h0 : F_X4_readStatement σ th = some o) : MF l yX4_readStatement cX4_readStatement 1 none 8 172 D cA B S [.ref (B + th)] σ o none := by
  refine MF.of (by decide +kernel) (Nat.le_of_ble_eq_true rfl) ?_
  intro p e s m args below meth c C hr w ls hl
  have hl : lv_has ls 1 [(0, .ref (B + th))] := hl
  have h := h0
  unfold F_X4_readStatement at h
  refine lv_aload_n C.1 C.2.1 dX4_readStatement_0 rfl (lv_at hl 0 rfl) ?_
  refine g_ldcS (t := 1) C w rfl ⟨rfl, rfl⟩ dX4_readStatement_1 ?_
  obtain ⟨o1, ho1, h⟩ := g_bd h
  refine g_callV (n := 1) (As := [.ref (D.2 100 1)]) (rest := []) C w (m_X4_isWord sth kth (by decide) ho1) (cl_4).1 sth kth (by decide) ml_X4_92 iy_X4_isWord sy_X4_isWord in_X4 cy_X4_isWord ⟨rfl, by decide +kernel, by decide +kernel, by decide +kernel⟩ rfl ⟨Nat.le_of_ble_eq_true rfl, Nat.le_of_ble_eq_true rfl⟩ rfl (Nat.le_of_ble_eq_true rfl) hl.1 ⟨Nat.le_of_ble_eq_true rfl, Nat.le_of_ble_eq_true rfl⟩ dX4_readStatement_3 (fun H locs w => ?_)
  refine lv_if_eq (tgt := 16) C.1 C.2.1 dX4_readStatement_6 (by decide) (fun hc => ?_) (fun hc => ?_)
  · have h := (if_pos hc).symm.trans h
    refine lv_aload_n C.1 C.2.1 dX4_readStatement_16 rfl (lv_at hl 0 rfl) ?_
    refine g_ldcS (t := 2) C w rfl ⟨rfl, rfl⟩ dX4_readStatement_17 ?_
    obtain ⟨o2, ho2, h⟩ := g_bd h
    refine g_callV (n := 1) (As := [.ref (D.2 100 2)]) (rest := []) C w (m_X4_isWord sth kth (by decide) ho2) (cl_4).1 sth kth (by decide) ml_X4_92 iy_X4_isWord sy_X4_isWord in_X4 cy_X4_isWord ⟨rfl, by decide +kernel, by decide +kernel, by decide +kernel⟩ rfl ⟨Nat.le_of_ble_eq_true rfl, Nat.le_of_ble_eq_true rfl⟩ rfl (Nat.le_of_ble_eq_true rfl) hl.1 ⟨Nat.le_of_ble_eq_true rfl, Nat.le_of_ble_eq_true rfl⟩ dX4_readStatement_19 (fun H locs w => ?_)
    refine lv_if_eq (tgt := 32) C.1 C.2.1 dX4_readStatement_22 (by decide) (fun hc => ?_) (fun hc => ?_)
    · have h := (if_pos hc).symm.trans h
      refine lv_aload_n C.1 C.2.1 dX4_readStatement_32 rfl (lv_at hl 0 rfl) ?_
      refine g_ldcS (t := 3) C w rfl ⟨rfl, rfl⟩ dX4_readStatement_33 ?_
      obtain ⟨o3, ho3, h⟩ := g_bd h
      refine g_callV (n := 1) (As := [.ref (D.2 100 3)]) (rest := []) C w (m_X4_isWord sth kth (by decide) ho3) (cl_4).1 sth kth (by decide) ml_X4_92 iy_X4_isWord sy_X4_isWord in_X4 cy_X4_isWord ⟨rfl, by decide +kernel, by decide +kernel, by decide +kernel⟩ rfl ⟨Nat.le_of_ble_eq_true rfl, Nat.le_of_ble_eq_true rfl⟩ rfl (Nat.le_of_ble_eq_true rfl) hl.1 ⟨Nat.le_of_ble_eq_true rfl, Nat.le_of_ble_eq_true rfl⟩ dX4_readStatement_35 (fun H locs w => ?_)
      refine lv_if_eq (tgt := 48) C.1 C.2.1 dX4_readStatement_38 (by decide) (fun hc => ?_) (fun hc => ?_)
      · have h := (if_pos hc).symm.trans h
        refine lv_aload_n C.1 C.2.1 dX4_readStatement_48 rfl (lv_at hl 0 rfl) ?_
        refine g_ldcS (t := 4) C w rfl ⟨rfl, rfl⟩ dX4_readStatement_49 ?_
        obtain ⟨o4, ho4, h⟩ := g_bd h
        refine g_callV (n := 1) (As := [.ref (D.2 100 4)]) (rest := []) C w (m_X4_isWord sth kth (by decide) ho4) (cl_4).1 sth kth (by decide) ml_X4_92 iy_X4_isWord sy_X4_isWord in_X4 cy_X4_isWord ⟨rfl, by decide +kernel, by decide +kernel, by decide +kernel⟩ rfl ⟨Nat.le_of_ble_eq_true rfl, Nat.le_of_ble_eq_true rfl⟩ rfl (Nat.le_of_ble_eq_true rfl) hl.1 ⟨Nat.le_of_ble_eq_true rfl, Nat.le_of_ble_eq_true rfl⟩ dX4_readStatement_51 (fun H locs w => ?_)
        refine lv_if_eq (tgt := 64) C.1 C.2.1 dX4_readStatement_54 (by decide) (fun hc => ?_) (fun hc => ?_)
        · have h := (if_pos hc).symm.trans h
          refine lv_aload_n C.1 C.2.1 dX4_readStatement_64 rfl (lv_at hl 0 rfl) ?_
          refine lv_iconst (v := 1) C.1 C.2.1 dX4_readStatement_65 (by decide) ?_
          obtain ⟨o5, ho5, h⟩ := g_bd h
          refine g_callV (n := 1) (As := [.int 1]) (rest := []) C w (m_X4_fail sth kth ho5) (cl_4).1 sth kth (by decide) ml_X4_114 iy_X4_fail sy_X4_fail in_X4 cy_X4_fail ⟨rfl, by decide +kernel, by decide +kernel, by decide +kernel⟩ rfl ⟨Nat.le_of_ble_eq_true rfl, Nat.le_of_ble_eq_true rfl⟩ rfl (Nat.le_of_ble_eq_true rfl) hl.1 ⟨Nat.le_of_ble_eq_true rfl, Nat.le_of_ble_eq_true rfl⟩ dX4_readStatement_66 (fun H locs w => ?_)
          refine lv_aload_n C.1 C.2.1 dX4_readStatement_69 rfl (lv_at hl 0 rfl) ?_
          obtain ⟨o6, ho6, h⟩ := g_bd h
          refine g_callV (n := 0) (As := []) (rest := []) C w (m_X4_takeSemicolon sth kth ho6) (cl_4).1 sth kth (by decide) ml_X4_87 iy_X4_takeSemicolon sy_X4_takeSemicolon in_X4 cy_X4_takeSemicolon ⟨rfl, by decide +kernel, by decide +kernel, by decide +kernel⟩ rfl ⟨Nat.le_of_ble_eq_true rfl, Nat.le_of_ble_eq_true rfl⟩ rfl (Nat.le_of_ble_eq_true rfl) hl.1 ⟨Nat.le_of_ble_eq_true rfl, Nat.le_of_ble_eq_true rfl⟩ dX4_readStatement_70 (fun H locs w => ?_)
          exact g_vretV C w hr dX4_readStatement_73 h
        · have h := (if_neg hc).symm.trans h
          refine lv_aload_n C.1 C.2.1 dX4_readStatement_57 rfl (lv_at hl 0 rfl) ?_
          obtain ⟨o7, ho7, h⟩ := g_bd h
          refine g_callV (n := 0) (As := []) (rest := []) C w (m_X4_readPlayer sth kth ho7) (cl_4).1 sth kth (by decide) ml_X4_111 iy_X4_readPlayer sy_X4_readPlayer in_X4 cy_X4_readPlayer ⟨rfl, by decide +kernel, by decide +kernel, by decide +kernel⟩ rfl ⟨Nat.le_of_ble_eq_true rfl, Nat.le_of_ble_eq_true rfl⟩ rfl (Nat.le_of_ble_eq_true rfl) hl.1 ⟨Nat.le_of_ble_eq_true rfl, Nat.le_of_ble_eq_true rfl⟩ dX4_readStatement_58 (fun H locs w => ?_)
          refine lv_goto (tgt := 69) C.1 C.2.1 dX4_readStatement_61 (by decide) ?_
          refine lv_aload_n C.1 C.2.1 dX4_readStatement_69 rfl (lv_at hl 0 rfl) ?_
          obtain ⟨o8, ho8, h⟩ := g_bd h
          refine g_callV (n := 0) (As := []) (rest := []) C w (m_X4_takeSemicolon sth kth ho8) (cl_4).1 sth kth (by decide) ml_X4_87 iy_X4_takeSemicolon sy_X4_takeSemicolon in_X4 cy_X4_takeSemicolon ⟨rfl, by decide +kernel, by decide +kernel, by decide +kernel⟩ rfl ⟨Nat.le_of_ble_eq_true rfl, Nat.le_of_ble_eq_true rfl⟩ rfl (Nat.le_of_ble_eq_true rfl) hl.1 ⟨Nat.le_of_ble_eq_true rfl, Nat.le_of_ble_eq_true rfl⟩ dX4_readStatement_70 (fun H locs w => ?_)
          exact g_vretV C w hr dX4_readStatement_73 h
      · have h := (if_neg hc).symm.trans h
        refine lv_aload_n C.1 C.2.1 dX4_readStatement_41 rfl (lv_at hl 0 rfl) ?_
        obtain ⟨o9, ho9, h⟩ := g_bd h
        refine g_callV (n := 0) (As := []) (rest := []) C w (m_X4_readJoin sth kth ho9) (cl_4).1 sth kth (by decide) ml_X4_106 iy_X4_readJoin sy_X4_readJoin in_X4 cy_X4_readJoin ⟨rfl, by decide +kernel, by decide +kernel, by decide +kernel⟩ rfl ⟨Nat.le_of_ble_eq_true rfl, Nat.le_of_ble_eq_true rfl⟩ rfl (Nat.le_of_ble_eq_true rfl) hl.1 ⟨Nat.le_of_ble_eq_true rfl, Nat.le_of_ble_eq_true rfl⟩ dX4_readStatement_42 (fun H locs w => ?_)
        refine lv_goto (tgt := 69) C.1 C.2.1 dX4_readStatement_45 (by decide) ?_
        refine lv_aload_n C.1 C.2.1 dX4_readStatement_69 rfl (lv_at hl 0 rfl) ?_
        obtain ⟨o10, ho10, h⟩ := g_bd h
        refine g_callV (n := 0) (As := []) (rest := []) C w (m_X4_takeSemicolon sth kth ho10) (cl_4).1 sth kth (by decide) ml_X4_87 iy_X4_takeSemicolon sy_X4_takeSemicolon in_X4 cy_X4_takeSemicolon ⟨rfl, by decide +kernel, by decide +kernel, by decide +kernel⟩ rfl ⟨Nat.le_of_ble_eq_true rfl, Nat.le_of_ble_eq_true rfl⟩ rfl (Nat.le_of_ble_eq_true rfl) hl.1 ⟨Nat.le_of_ble_eq_true rfl, Nat.le_of_ble_eq_true rfl⟩ dX4_readStatement_70 (fun H locs w => ?_)
        exact g_vretV C w hr dX4_readStatement_73 h
    · have h := (if_neg hc).symm.trans h
      refine lv_aload_n C.1 C.2.1 dX4_readStatement_25 rfl (lv_at hl 0 rfl) ?_
      obtain ⟨o11, ho11, h⟩ := g_bd h
      refine g_callV (n := 0) (As := []) (rest := []) C w (m_X4_readVary sth kth ho11) (cl_4).1 sth kth (by decide) ml_X4_101 iy_X4_readVary sy_X4_readVary in_X4 cy_X4_readVary ⟨rfl, by decide +kernel, by decide +kernel, by decide +kernel⟩ rfl ⟨Nat.le_of_ble_eq_true rfl, Nat.le_of_ble_eq_true rfl⟩ rfl (Nat.le_of_ble_eq_true rfl) hl.1 ⟨Nat.le_of_ble_eq_true rfl, Nat.le_of_ble_eq_true rfl⟩ dX4_readStatement_26 (fun H locs w => ?_)
      refine lv_goto (tgt := 69) C.1 C.2.1 dX4_readStatement_29 (by decide) ?_
      refine lv_aload_n C.1 C.2.1 dX4_readStatement_69 rfl (lv_at hl 0 rfl) ?_
      obtain ⟨o12, ho12, h⟩ := g_bd h
      refine g_callV (n := 0) (As := []) (rest := []) C w (m_X4_takeSemicolon sth kth ho12) (cl_4).1 sth kth (by decide) ml_X4_87 iy_X4_takeSemicolon sy_X4_takeSemicolon in_X4 cy_X4_takeSemicolon ⟨rfl, by decide +kernel, by decide +kernel, by decide +kernel⟩ rfl ⟨Nat.le_of_ble_eq_true rfl, Nat.le_of_ble_eq_true rfl⟩ rfl (Nat.le_of_ble_eq_true rfl) hl.1 ⟨Nat.le_of_ble_eq_true rfl, Nat.le_of_ble_eq_true rfl⟩ dX4_readStatement_70 (fun H locs w => ?_)
      exact g_vretV C w hr dX4_readStatement_73 h
  · have h := (if_neg hc).symm.trans h
    refine lv_aload_n C.1 C.2.1 dX4_readStatement_9 rfl (lv_at hl 0 rfl) ?_
    obtain ⟨o13, ho13, h⟩ := g_bd h
    refine g_callV (n := 0) (As := []) (rest := []) C w (m_X4_readLink sth kth ho13) (cl_4).1 sth kth (by decide) ml_X4_96 iy_X4_readLink sy_X4_readLink in_X4 cy_X4_readLink ⟨rfl, by decide +kernel, by decide +kernel, by decide +kernel⟩ rfl ⟨Nat.le_of_ble_eq_true rfl, Nat.le_of_ble_eq_true rfl⟩ rfl (Nat.le_of_ble_eq_true rfl) hl.1 ⟨Nat.le_of_ble_eq_true rfl, Nat.le_of_ble_eq_true rfl⟩ dX4_readStatement_10 (fun H locs w => ?_)
    refine lv_goto (tgt := 69) C.1 C.2.1 dX4_readStatement_13 (by decide) ?_
    refine lv_aload_n C.1 C.2.1 dX4_readStatement_69 rfl (lv_at hl 0 rfl) ?_
    obtain ⟨o14, ho14, h⟩ := g_bd h
    refine g_callV (n := 0) (As := []) (rest := []) C w (m_X4_takeSemicolon sth kth ho14) (cl_4).1 sth kth (by decide) ml_X4_87 iy_X4_takeSemicolon sy_X4_takeSemicolon in_X4 cy_X4_takeSemicolon ⟨rfl, by decide +kernel, by decide +kernel, by decide +kernel⟩ rfl ⟨Nat.le_of_ble_eq_true rfl, Nat.le_of_ble_eq_true rfl⟩ rfl (Nat.le_of_ble_eq_true rfl) hl.1 ⟨Nat.le_of_ble_eq_true rfl, Nat.le_of_ble_eq_true rfl⟩ dX4_readStatement_70 (fun H locs w => ?_)
    exact g_vretV C w hr dX4_readStatement_73 h

set_option maxHeartbeats 4000000 in
set_option maxRecDepth 100000 in
theorem m_X7_steadyQuality {l : Launch} (hfl : l.stackTraces = false) {D : va_G} {cA : Nat → ClassId} {B : Nat} {S : Nat → Prop} {σ : GS} {th : Nat} {a1 : Int32} {o : GS × (String ⊕ Int32)} (sth : S th) (kth : kdG th = 7) (h0 : F_X7_steadyQuality σ th a1 = some o) : MX l yX7_steadyQuality cX7_steadyQuality 3 (some .int) 8 146 1 D cA B S [.ref (B + th), .int a1] σ o.1 (mRi o.2) := by
  refine MX.of (by decide +kernel) (Nat.le_of_ble_eq_true rfl) ?_
  intro p e s m args below meth c C hr hex w ls hl
  have hl : lv_has ls 3 [(0, .ref (B + th)), (1, .int a1)] := hl
  have h := h0
  unfold F_X7_steadyQuality at h
  refine lv_aload_n C.1 C.2.1 dX7_steadyQuality_0 rfl (lv_at hl 0 rfl) ?_
  refine lv_iload_n C.1 C.2.1 dX7_steadyQuality_1 rfl (lv_at hl 1 rfl) ?_
  obtain ⟨o1, ho1, h⟩ := g_bd h
  obtain ⟨σ3, r9⟩ := o1
  rcases r9 with E9 | x2
  · refine g_callVX (n := 1) (As := [.int a1]) (rest := []) C w (m_X7_seatOf hfl sth kth ho1) (cl_7).1 sth kth (by decide) ml_X7_135 iy_X7_seatOf sy_X7_seatOf in_X7 cy_X7_seatOf ⟨rfl, by decide +kernel, by decide +kernel, by decide +kernel⟩ rfl ⟨Nat.le_of_ble_eq_true rfl, Nat.le_of_ble_eq_true rfl⟩ rfl (Nat.le_of_ble_eq_true rfl) hl.1 ⟨Nat.le_of_ble_eq_true rfl, Nat.le_of_ble_eq_true rfl⟩ dX7_steadyQuality_2 (fun E ce q H locs e9 w h1 h2 h3 => ?_) (fun v H locs e9 w => nomatch e9)
    exact g_outE C w hex (Sum.inl.inj e9) h1 h2 h3 (Nat.le_of_ble_eq_true rfl) (Nat.le_of_ble_eq_true rfl) (fun _ => rfl) h
  refine g_callVX (n := 1) (As := [.int a1]) (rest := []) C w (m_X7_seatOf hfl sth kth ho1) (cl_7).1 sth kth (by decide) ml_X7_135 iy_X7_seatOf sy_X7_seatOf in_X7 cy_X7_seatOf ⟨rfl, by decide +kernel, by decide +kernel, by decide +kernel⟩ rfl ⟨Nat.le_of_ble_eq_true rfl, Nat.le_of_ble_eq_true rfl⟩ rfl (Nat.le_of_ble_eq_true rfl) hl.1 ⟨Nat.le_of_ble_eq_true rfl, Nat.le_of_ble_eq_true rfl⟩ dX7_steadyQuality_2 (fun E ce q H locs e9 w h1 h2 h3 => nomatch e9) (fun v H locs e9 w => ?_)
  cases Sum.inr.inj e9
  have ⟨s4, k4⟩ := r_X7_seatOf w.2.1 sth kth ho1
  refine lv_astore_n (lv' := [(2, .ref (B + x2)), (0, .ref (B + th)), (1, .int a1)]) C.1 C.2.1 dX7_steadyQuality_5 rfl hl (by decide) rfl (fun ls hl => ?_)
  refine lv_aload_n C.1 C.2.1 dX7_steadyQuality_6 rfl (lv_at hl 0 rfl) ?_
  obtain ⟨o5, ho5, h⟩ := g_bd h
  refine g_callV (n := 0) (As := []) (rest := []) C w (m_X3_segmentsToAsk s4 k4 ho5) (cl_3).1 s4 k4 (by decide) ml_X7_209 iy_X3_segmentsToAsk sy_X3_segmentsToAsk in_X3 cy_X3_segmentsToAsk ⟨rfl, by decide +kernel, by decide +kernel, by decide +kernel⟩ rfl ⟨Nat.le_of_ble_eq_true rfl, Nat.le_of_ble_eq_true rfl⟩ rfl (Nat.le_of_ble_eq_true rfl) hl.1 ⟨Nat.le_of_ble_eq_true rfl, Nat.le_of_ble_eq_true rfl⟩ dX7_steadyQuality_7 (fun H locs w => ?_)
  refine lv_if_ne (tgt := 17) C.1 C.2.1 dX7_steadyQuality_10 (by decide) (fun hc => ?_) (fun hc => ?_)
  · have h := (if_neg hc).symm.trans h
    refine lv_aload_n C.1 C.2.1 dX7_steadyQuality_17 rfl (lv_at hl 1 rfl) ?_
    refine g_getR C w fl_X7_37 sth kth (by decide) kt_7_3 (fun _ _ _ => rfl) dX7_steadyQuality_18 (fun s6 k6 => ?_)
    refine lv_iload_n C.1 C.2.1 dX7_steadyQuality_21 rfl (lv_at hl 2 rfl) ?_
    obtain ⟨o7, ho7, h⟩ := g_bd h
    refine g_callV (n := 1) (As := [.int a1]) (rest := []) C w (m_X2_greatestSteadyQuality s6 k6 ho7) (cl_2).1 s6 k6 (by decide) ml_X7_228 iy_X2_greatestSteadyQuality sy_X2_greatestSteadyQuality in_X2 cy_X2_greatestSteadyQuality ⟨rfl, by decide +kernel, by decide +kernel, by decide +kernel⟩ rfl ⟨Nat.le_of_ble_eq_true rfl, Nat.le_of_ble_eq_true rfl⟩ rfl (Nat.le_of_ble_eq_true rfl) hl.1 ⟨Nat.le_of_ble_eq_true rfl, Nat.le_of_ble_eq_true rfl⟩ dX7_steadyQuality_22 (fun H locs w => ?_)
    exact g_iretX C w hr dX7_steadyQuality_25 h (fun _ => rfl) (Nat.le_of_ble_eq_true rfl) (Nat.le_of_ble_eq_true rfl)
  · have h := (if_pos hc).symm.trans h
    refine lv_iconst (v := (-1)) C.1 C.2.1 dX7_steadyQuality_13 (by decide) ?_
    refine lv_goto (tgt := 25) C.1 C.2.1 dX7_steadyQuality_14 (by decide) ?_
    exact g_iretX C w hr dX7_steadyQuality_25 h (fun _ => rfl) (Nat.le_of_ble_eq_true rfl) (Nat.le_of_ble_eq_true rfl)

