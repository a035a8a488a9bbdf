set_option maxHeartbeats 4000000 in
set_option maxRecDepth 100000 in
theorem m_X8_joinLine {l : Launch} {D : va_G} {cA : Nat → ClassId} {B : Nat} {S : Nat → Prop} {σ : GS} {th : Nat} {o : GS × Int32} (sth : S th) (kth : kdG th = 8) (h0 : F_X8_joinLine σ th = some o) : MF l yX8_joinLine cX8_joinLine 2 (some .boolean) 5 108 D cA B S [.ref (B + th)] σ o.1 (some (.int o.2)) := by
  refine MF.of (by decide +kernel) (Nat.le_of_ble_eq_true rfl) ?_
  intro p e s m args below meth c C hr w ls hl
  have hl : lv_has ls 2 [(0, .ref (B + th))] := hl
  have B_71 : ∀ (σ : GS) (v1 : Int32) (u0 : Int32) (H : Heap) (locs : List Loc) (ls : Array Slot), J_X8_joinLine_71 th σ v1 u0 = some o → WS D cA B S σ s H locs → lv_has ls 2 [(0, .ref (B + th)), (1, .int v1)] → W p l e (rmF 5 108) s m args below meth c H locs 0 0 (MQ below (QF D cA B S o.1 (some (.int o.2))) args s 0 0 (AB B S)) (F0 m 71 ls [.int u0, .int 4, .ref (B + th)]) := by
    intro σ v1 u0 H locs ls h  w hl
    unfold J_X8_joinLine_71 at h
    obtain ⟨o7, ho7, h⟩ := g_bd h
    refine g_callV (n := 2) (As := [.int 4, .int u0]) (rest := []) C w (m_X8_starts sth kth ho7) (cl_8).1 sth kth (by decide) ml_X8_140 iy_X8_starts sy_X8_starts in_X8 cy_X8_starts ⟨rfl, by decide +kernel, by decide +kernel, by decide +kernel⟩ rfl ⟨Nat.le_of_ble_eq_true rfl, Nat.le_of_ble_eq_true rfl⟩ rfl (Nat.le_of_ble_eq_true rfl) hl.1 ⟨Nat.le_of_ble_eq_true rfl, Nat.le_of_ble_eq_true rfl⟩ dX8_joinLine_71 (fun H locs w => ?_)
    refine lv_if_ne (tgt := 79) C.1 C.2.1 dX8_joinLine_74 (by decide) (fun hc => ?_) (fun hc => ?_)
    · have h := (if_neg hc).symm.trans h
      refine lv_aload_n C.1 C.2.1 dX8_joinLine_79 rfl (lv_at hl 0 rfl) ?_
      refine lv_dup C.1 C.2.1 dX8_joinLine_80 rfl ?_
      refine g_getI C w fl_X8_155 sth kth (by decide) (fun _ _ _ => rfl) dX8_joinLine_81 ?_
      refine lv_iconst (v := 1) C.1 C.2.1 dX8_joinLine_84 (by decide) ?_
      refine lv_iload_n C.1 C.2.1 dX8_joinLine_85 rfl (lv_at hl 1 rfl) ?_
      refine lv_ishl C.1 C.2.1 dX8_joinLine_86 ?_
      refine lv_ior C.1 C.2.1 dX8_joinLine_87 ?_
      refine g_putI C w fw_X8_155 sth kth (by decide) (fun _ _ _ => rfl) rfl rfl dX8_joinLine_88 (fun H locs w => ?_)
      refine lv_aload_n C.1 C.2.1 dX8_joinLine_91 rfl (lv_at hl 0 rfl) ?_
      refine lv_bipush (v := 19) C.1 C.2.1 dX8_joinLine_92 (by decide) ?_
      refine lv_bipush (v := 7) C.1 C.2.1 dX8_joinLine_94 (by decide) ?_
      refine lv_iload_n C.1 C.2.1 dX8_joinLine_96 rfl (lv_at hl 1 rfl) ?_
      refine lv_imul C.1 C.2.1 dX8_joinLine_97 ?_
      refine lv_iadd C.1 C.2.1 dX8_joinLine_98 ?_
      refine lv_iconst (v := 2) C.1 C.2.1 dX8_joinLine_99 (by decide) ?_
      refine lv_iadd C.1 C.2.1 dX8_joinLine_100 ?_
      refine lv_iconst (v := 0) C.1 C.2.1 dX8_joinLine_101 (by decide) ?_
      refine lv_sipush (v := 999) C.1 C.2.1 dX8_joinLine_102 (by decide) ?_
      obtain ⟨o9, ho9, h⟩ := g_bd h
      refine g_callV (n := 3) (As := [.int ((19 + (7 * v1)) + 2), .int 0, .int 999]) (rest := []) C w (m_X8_lays sth kth ho9) (cl_8).1 sth kth (by decide) ml_X8_144 iy_X8_lays sy_X8_lays in_X8 cy_X8_lays ⟨rfl, by decide +kernel, by decide +kernel, by decide +kernel⟩ rfl ⟨Nat.le_of_ble_eq_true rfl, Nat.le_of_ble_eq_true rfl⟩ rfl (Nat.le_of_ble_eq_true rfl) hl.1 ⟨Nat.le_of_ble_eq_true rfl, Nat.le_of_ble_eq_true rfl⟩ dX8_joinLine_105 (fun H locs w => ?_)
      obtain ⟨hb, hf, h⟩ := g_obz h
      exact g_zretB C w hr hb dX8_joinLine_108 h
    · have h := (if_pos hc).symm.trans h
      refine lv_iconst (v := 0) C.1 C.2.1 dX8_joinLine_77 (by decide) ?_
      exact g_zretB C w hr (by decide) dX8_joinLine_78 h
  have B_59 : ∀ (σ : GS) (v1 : Int32) (H : Heap) (locs : List Loc) (ls : Array Slot), J_X8_joinLine_59 th σ v1 = some o → WS D cA B S σ s H locs → lv_has ls 2 [(0, .ref (B + th)), (1, .int v1)] → W p l e (rmF 5 108) s m args below meth c H locs 0 0 (MQ below (QF D cA B S o.1 (some (.int o.2))) args s 0 0 (AB B S)) (F0 m 59 ls []) := by
    intro σ v1 H locs ls h  w hl
    unfold J_X8_joinLine_59 at h
    refine lv_aload_n C.1 C.2.1 dX8_joinLine_59 rfl (lv_at hl 0 rfl) ?_
    refine lv_iconst (v := 4) C.1 C.2.1 dX8_joinLine_60 (by decide) ?_
    refine lv_iload_n C.1 C.2.1 dX8_joinLine_61 rfl (lv_at hl 1 rfl) ?_
    refine lv_iconst (v := (-1)) C.1 C.2.1 dX8_joinLine_62 (by decide) ?_
    refine lv_icmp_eq (tgt := 70) C.1 C.2.1 dX8_joinLine_63 (by decide) (fun hc => ?_) (fun hc => ?_)
    · have h := (if_pos hc).symm.trans h
      refine lv_iconst (v := 0) C.1 C.2.1 dX8_joinLine_70 (by decide) ?_
      exact B_71 _ _ _ _ _ _ h w (show lv_has ls 2 [(0, .ref (B + th)), (1, .int v1)] from lv_sub hl [0, 1] rfl)
    · have h := (if_neg hc).symm.trans h
      refine lv_iconst (v := 1) C.1 C.2.1 dX8_joinLine_66 (by decide) ?_
      refine lv_goto (tgt := 71) C.1 C.2.1 dX8_joinLine_67 (by decide) ?_
      exact B_71 _ _ _ _ _ _ h w (show lv_has ls 2 [(0, .ref (B + th)), (1, .int v1)] from lv_sub hl [0, 1] rfl)
  have h := h0
  unfold F_X8_joinLine at h
  refine lv_aload_n C.1 C.2.1 dX8_joinLine_0 rfl (lv_at hl 0 rfl) ?_
  obtain ⟨o1, ho1, h⟩ := g_bd h
  refine g_callV (n := 0) (As := []) (rest := []) C w (m_X8_advance sth kth ho1) (cl_8).1 sth kth (by decide) ml_X8_127 iy_X8_advance sy_X8_advance in_X8 cy_X8_advance ⟨rfl, by decide +kernel, by decide +kernel, by decide +kernel⟩ rfl ⟨Nat.le_of_ble_eq_true rfl, Nat.le_of_ble_eq_true rfl⟩ rfl (Nat.le_of_ble_eq_true rfl) hl.1 ⟨Nat.le_of_ble_eq_true rfl, Nat.le_of_ble_eq_true rfl⟩ dX8_joinLine_1 (fun H locs w => ?_)
  refine lv_aload_n C.1 C.2.1 dX8_joinLine_4 rfl (lv_at hl 0 rfl) ?_
  refine g_getI C w fl_X8_105 sth kth (by decide) (fun _ _ _ => rfl) dX8_joinLine_5 ?_
  refine lv_iconst (v := 1) C.1 C.2.1 dX8_joinLine_8 (by decide) ?_
  refine lv_icmp_eq (tgt := 18) C.1 C.2.1 dX8_joinLine_9 (by decide) (fun hc => ?_) (fun hc => ?_)
  · have h := (if_pos hc).symm.trans h
    refine lv_aload_n C.1 C.2.1 dX8_joinLine_18 rfl (lv_at hl 0 rfl) ?_
    refine g_getR C w fl_X8_40 sth kth (by decide) kt_8_21 (fun _ _ _ => rfl) dX8_joinLine_19 (fun s2 k2 => ?_)
    refine lv_aload_n C.1 C.2.1 dX8_joinLine_22 rfl (lv_at hl 0 rfl) ?_
    refine g_getR C w fl_X8_28 sth kth (by decide) kt_8_17 (fun _ _ _ => rfl) dX8_joinLine_23 (fun s3 k3 => ?_)
    refine lv_iconst (v := 4) C.1 C.2.1 dX8_joinLine_26 (by decide) ?_
    obtain ⟨hb, h⟩ := g_ob h
    refine g_iald C w s3 k3 hb dX8_joinLine_27 ?_
    refine lv_aload_n C.1 C.2.1 dX8_joinLine_28 rfl (lv_at hl 0 rfl) ?_
    refine g_getL C w fl_X8_84 sth kth (by decide) (fun _ _ _ => rfl) dX8_joinLine_29 ?_
    obtain ⟨o4, ho4, h⟩ := g_bd h
    refine g_callS (n := 3) (As := [.ref (B + (rfG th 21)), .int (gI o1 (rfG th 17) (4 : Int32).toNatClampNeg), .long (gL o1 th 11)]) (rest := []) C w (m_X8_named s2 k2 ho4) ml_X8_151 iy_X8_named in_X8 cy_X8_named ⟨by decide +kernel, by decide +kernel, by decide +kernel⟩ rfl ⟨Nat.le_of_ble_eq_true rfl, Nat.le_of_ble_eq_true rfl⟩ rfl (Nat.le_of_ble_eq_true rfl) hl.1 ⟨Nat.le_of_ble_eq_true rfl, Nat.le_of_ble_eq_true rfl⟩ dX8_joinLine_32 (fun H locs w => ?_)
    refine lv_istore_n (lv' := [(1, .int o4), (0, .ref (B + th))]) C.1 C.2.1 dX8_joinLine_35 rfl hl (by decide) rfl (fun ls hl => ?_)
    refine lv_iload_n C.1 C.2.1 dX8_joinLine_36 rfl (lv_at hl 0 rfl) ?_
    refine lv_iconst (v := (-1)) C.1 C.2.1 dX8_joinLine_37 (by decide) ?_
    refine lv_icmp_eq (tgt := 59) C.1 C.2.1 dX8_joinLine_38 (by decide) (fun hc => ?_) (fun hc => ?_)
    · have h := (if_pos hc).symm.trans h
      exact B_59 _ _ _ _ _ h w (show lv_has ls 2 [(0, .ref (B + th)), (1, .int o4)] from lv_sub hl [1, 0] rfl)
    · have h := (if_neg hc).symm.trans h
      refine lv_aload_n C.1 C.2.1 dX8_joinLine_41 rfl (lv_at hl 1 rfl) ?_
      refine g_getI C w fl_X8_155 sth kth (by decide) (fun _ _ _ => rfl) dX8_joinLine_42 ?_
      refine lv_iload_n C.1 C.2.1 dX8_joinLine_45 rfl (lv_at hl 0 rfl) ?_
      refine lv_ishr C.1 C.2.1 dX8_joinLine_46 ?_
      refine lv_iconst (v := 1) C.1 C.2.1 dX8_joinLine_47 (by decide) ?_
      refine lv_iand C.1 C.2.1 dX8_joinLine_48 ?_
      refine lv_iconst (v := 1) C.1 C.2.1 dX8_joinLine_49 (by decide) ?_
      refine lv_icmp_ne (tgt := 59) C.1 C.2.1 dX8_joinLine_50 (by decide) (fun hc => ?_) (fun hc => ?_)
      · have h := (if_neg hc).symm.trans h
        exact B_59 _ _ _ _ _ h w (show lv_has ls 2 [(0, .ref (B + th)), (1, .int o4)] from lv_sub hl [1, 0] rfl)
      · have h := (if_pos hc).symm.trans h
        refine lv_aload_n C.1 C.2.1 dX8_joinLine_53 rfl (lv_at hl 1 rfl) ?_
        refine lv_iconst (v := 2) C.1 C.2.1 dX8_joinLine_54 (by decide) ?_
        obtain ⟨o5, ho5, h⟩ := g_bd h
        refine g_callV (n := 1) (As := [.int 2]) (rest := []) C w (m_X8_fails sth kth ho5) (cl_8).1 sth kth (by decide) ml_X8_123 iy_X8_fails sy_X8_fails in_X8 cy_X8_fails ⟨rfl, by decide +kernel, by decide +kernel, by decide +kernel⟩ rfl ⟨Nat.le_of_ble_eq_true rfl, Nat.le_of_ble_eq_true rfl⟩ rfl (Nat.le_of_ble_eq_true rfl) hl.1 ⟨Nat.le_of_ble_eq_true rfl, Nat.le_of_ble_eq_true rfl⟩ dX8_joinLine_55 (fun H locs w => ?_)
        obtain ⟨hb, hf, h⟩ := g_obz h
        exact g_zretB C w hr hb dX8_joinLine_58 h
  · have h := (if_neg hc).symm.trans h
    refine lv_aload_n C.1 C.2.1 dX8_joinLine_12 rfl (lv_at hl 0 rfl) ?_
    refine lv_iconst (v := 1) C.1 C.2.1 dX8_joinLine_13 (by decide) ?_
    obtain ⟨o6, ho6, h⟩ := g_bd h
    refine g_callV (n := 1) (As := [.int 1]) (rest := []) C w (m_X8_fails sth kth ho6) (cl_8).1 sth kth (by decide) ml_X8_123 iy_X8_fails sy_X8_fails in_X8 cy_X8_fails ⟨rfl, by decide +kernel, by decide +kernel, by decide +kernel⟩ rfl ⟨Nat.le_of_ble_eq_true rfl, Nat.le_of_ble_eq_true rfl⟩ rfl (Nat.le_of_ble_eq_true rfl) hl.1 ⟨Nat.le_of_ble_eq_true rfl, Nat.le_of_ble_eq_true rfl⟩ dX8_joinLine_14 (fun H locs w => ?_)
    obtain ⟨hb, hf, h⟩ := g_obz h
    exact g_zretB C w hr hb dX8_joinLine_17 h

set_option maxHeartbeats 4000000 in
set_option maxRecDepth 100000 in
theorem m_X8_sizesRead {l : Launch} {D : va_G} {cA : Nat → ClassId} {B : Nat} {S : Nat → Prop} {σ : GS} {th : Nat} {a1 : Int32} {o : GS × Int32} (sth : S th) (kth : kdG th = 8) (h0 : F_X8_sizesRead σ th a1 = some o) : MF l yX8_sizesRead cX8_sizesRead 5 (some .boolean) 5 108 D cA B S [.ref (B + th), .int a1] σ o.1 (some (.int o.2)) := by
  refine MF.of (by decide +kernel) (Nat.le_of_ble_eq_true rfl) ?_
  intro p e s m args below meth c C hr w ls hl
  have hl : lv_has ls 5 [(0, .ref (B + th)), (1, .int a1)] := hl
  have B_99 : ∀ (σ : GS) (v2 : Int32) (v4 : Int32) (H : Heap) (locs : List Loc) (ls : Array Slot), J_X8_sizesRead_99 th a1 σ v2 v4 = some o → WS D cA B S σ s H locs → lv_has ls 5 [(0, .ref (B + th)), (1, .int a1), (2, .int v2), (4, .int v4)] → W p l e (rmF 5 108) s m args below meth c H locs 0 0 (MQ below (QF D cA B S o.1 (some (.int o.2))) args s 0 0 (AB B S)) (F0 m 99 ls []) := by
    intro σ v2 v4 H locs ls h  w hl
    unfold J_X8_sizesRead_99 at h
    refine lv_aload_n C.1 C.2.1 dX8_sizesRead_99 rfl (lv_at hl 0 rfl) ?_
    refine g_getR C w fl_X8_28 sth kth (by decide) kt_8_17 (fun _ _ _ => rfl) dX8_sizesRead_100 (fun s1 k1 => ?_)
    refine lv_iload_n C.1 C.2.1 dX8_sizesRead_103 rfl (lv_at hl 1 rfl) ?_
    refine lv_iconst (v := 1) C.1 C.2.1 dX8_sizesRead_104 (by decide) ?_
    refine lv_iadd C.1 C.2.1 dX8_sizesRead_105 ?_
    refine lv_iload_n C.1 C.2.1 dX8_sizesRead_106 rfl (lv_at hl 2 rfl) ?_
    obtain ⟨hb, h⟩ := g_ob h
    refine g_iast C w s1 k1 hb dX8_sizesRead_107 (fun H locs w => ?_)
    refine lv_iload C.1 C.2.1 dX8_sizesRead_108 (lv_at hl 3 rfl) ?_
    obtain ⟨hb, hf, h⟩ := g_obz h
    exact g_zretB C w hr hb dX8_sizesRead_110 h
  have B_7 : ∀ (n7 : Nat) (σ : GS) (v2 : Int32) (v3 : Int32) (v4 : Int32) (H : Heap) (locs : List Loc) (ls : Array Slot), L_X8_sizesRead_7 th a1 n7 σ v2 v3 v4 = some o → WS D cA B S σ s H locs → lv_has ls 5 [(0, .ref (B + th)), (1, .int a1), (2, .int v2), (3, .int v3), (4, .int v4)] → W p l e (rmF 5 108) s m args below meth c H locs 0 0 (MQ below (QF D cA B S o.1 (some (.int o.2))) args s 0 0 (AB B S)) (F0 m 7 ls []) := by
    intro n7
    induction n7 with
    | zero => intro σ v2 v3 v4 H locs ls h; exact nomatch (show (none : Option (GS × Int32)) = some o from h)
    | succ n7 ih7 =>
      have B_65 : ∀ (σ : GS) (v2 : Int32) (H : Heap) (locs : List Loc) (ls : Array Slot), J_X8_sizesRead_65 (L_X8_sizesRead_7 th a1 n7) th a1 σ v2 = some o → WS D cA B S σ s H locs → lv_has ls 5 [(0, .ref (B + th)), (1, .int a1), (2, .int v2)] → W p l e (rmF 5 108) s m args below meth c H locs 0 0 (MQ below (QF D cA B S o.1 (some (.int o.2))) args s 0 0 (AB B S)) (F0 m 65 ls []) := by
        intro σ v2 H locs ls h  w hl
        unfold J_X8_sizesRead_65 at h
        refine lv_aload_n C.1 C.2.1 dX8_sizesRead_65 rfl (lv_at hl 0 rfl) ?_
        refine lv_iload_n C.1 C.2.1 dX8_sizesRead_66 rfl (lv_at hl 1 rfl) ?_
        refine lv_iconst (v := 3) C.1 C.2.1 dX8_sizesRead_67 (by decide) ?_
        refine lv_iadd C.1 C.2.1 dX8_sizesRead_68 ?_
        refine lv_iload_n C.1 C.2.1 dX8_sizesRead_69 rfl (lv_at hl 2 rfl) ?_
        refine lv_iadd C.1 C.2.1 dX8_sizesRead_70 ?_
        refine lv_iconst (v := 1) C.1 C.2.1 dX8_sizesRead_71 (by decide) ?_
        refine lv_sipush (v := 9999) C.1 C.2.1 dX8_sizesRead_72 (by decide) ?_
        obtain ⟨o6, ho6, h⟩ := g_bd h
        refine g_callV (n := 3) (As := [.int ((a1 + 3) + v2), .int 1, .int 9999]) (rest := []) C w (m_X8_lays sth kth ho6) (cl_8).1 sth kth (by decide) ml_X8_144 iy_X8_lays sy_X8_lays in_X8 cy_X8_lays ⟨rfl, by decide +kernel, by decide +kernel, by decide +kernel⟩ rfl ⟨Nat.le_of_ble_eq_true rfl, Nat.le_of_ble_eq_true rfl⟩ rfl (Nat.le_of_ble_eq_true rfl) hl.1 ⟨Nat.le_of_ble_eq_true rfl, Nat.le_of_ble_eq_true rfl⟩ dX8_sizesRead_75 (fun H locs w => ?_)
        refine lv_if_eq (tgt := 85) C.1 C.2.1 dX8_sizesRead_78 (by decide) (fun hc => ?_) (fun hc => ?_)
        · have h := (if_pos hc).symm.trans h
          refine lv_iconst (v := 0) C.1 C.2.1 dX8_sizesRead_85 (by decide) ?_
          refine lv_istore (lv' := [(4, .int 0), (0, .ref (B + th)), (1, .int a1), (2, .int v2)]) C.1 C.2.1 dX8_sizesRead_86 hl (by decide) rfl (fun ls hl => ?_)
          refine lv_aload_n C.1 C.2.1 dX8_sizesRead_88 rfl (lv_at hl 1 rfl) ?_
          refine g_getI C w fl_X8_134 sth kth (by decide) (fun _ _ _ => rfl) dX8_sizesRead_89 ?_
          refine lv_istore_n (lv' := [(3, .int (gI o6.1 th 14)), (4, .int 0), (0, .ref (B + th)), (1, .int a1), (2, .int v2)]) C.1 C.2.1 dX8_sizesRead_92 rfl hl (by decide) rfl (fun ls hl => ?_)
          refine lv_iinc (k := 4) (v := v2 + 1) (lv' := [(2, .int (v2 + 1)), (3, .int (gI o6.1 th 14)), (4, .int 0), (0, .ref (B + th)), (1, .int a1)]) C.1 C.2.1 dX8_sizesRead_93 hl rfl rfl (by decide) rfl (fun ls hl => ?_)
          refine lv_goto (tgt := 7) C.1 C.2.1 dX8_sizesRead_96 (by decide) ?_
          exact ih7 _ _ _ _ _ _ _ h w (show lv_has ls 5 [(0, .ref (B + th)), (1, .int a1), (2, .int (v2 + 1)), (3, .int (gI o6.1 th 14)), (4, .int 0)] from lv_sub hl [3, 4, 0, 1, 2] rfl)
        · have h := (if_neg hc).symm.trans h
          refine lv_iconst (v := 1) C.1 C.2.1 dX8_sizesRead_81 (by decide) ?_
          refine lv_goto (tgt := 86) C.1 C.2.1 dX8_sizesRead_82 (by decide) ?_
          refine lv_istore (lv' := [(4, .int 1), (0, .ref (B + th)), (1, .int a1), (2, .int v2)]) C.1 C.2.1 dX8_sizesRead_86 hl (by decide) rfl (fun ls hl => ?_)
          refine lv_aload_n C.1 C.2.1 dX8_sizesRead_88 rfl (lv_at hl 1 rfl) ?_
          refine g_getI C w fl_X8_134 sth kth (by decide) (fun _ _ _ => rfl) dX8_sizesRead_89 ?_
          refine lv_istore_n (lv' := [(3, .int (gI o6.1 th 14)), (4, .int 1), (0, .ref (B + th)), (1, .int a1), (2, .int v2)]) C.1 C.2.1 dX8_sizesRead_92 rfl hl (by decide) rfl (fun ls hl => ?_)
          refine lv_iinc (k := 4) (v := v2 + 1) (lv' := [(2, .int (v2 + 1)), (3, .int (gI o6.1 th 14)), (4, .int 1), (0, .ref (B + th)), (1, .int a1)]) C.1 C.2.1 dX8_sizesRead_93 hl rfl rfl (by decide) rfl (fun ls hl => ?_)
          refine lv_goto (tgt := 7) C.1 C.2.1 dX8_sizesRead_96 (by decide) ?_
          exact ih7 _ _ _ _ _ _ _ h w (show lv_has ls 5 [(0, .ref (B + th)), (1, .int a1), (2, .int (v2 + 1)), (3, .int (gI o6.1 th 14)), (4, .int 1)] from lv_sub hl [3, 4, 0, 1, 2] rfl)
      have B_48 : ∀ (σ : GS) (v2 : Int32) (v3 : Int32) (H : Heap) (locs : List Loc) (ls : Array Slot), J_X8_sizesRead_48 (L_X8_sizesRead_7 th a1 n7) th a1 σ v2 v3 = some o → WS D cA B S σ s H locs → lv_has ls 5 [(0, .ref (B + th)), (1, .int a1), (2, .int v2), (3, .int v3)] → W p l e (rmF 5 108) s m args below meth c H locs 0 0 (MQ below (QF D cA B S o.1 (some (.int o.2))) args s 0 0 (AB B S)) (F0 m 48 ls []) := by
        intro σ v2 v3 H locs ls h  w hl
        unfold J_X8_sizesRead_48 at h
        refine lv_aload_n C.1 C.2.1 dX8_sizesRead_48 rfl (lv_at hl 0 rfl) ?_
        refine g_getI C w fl_X8_102 sth kth (by decide) (fun _ _ _ => rfl) dX8_sizesRead_49 ?_
        refine lv_iload_n C.1 C.2.1 dX8_sizesRead_52 rfl (lv_at hl 3 rfl) ?_
        refine lv_icmp_gt (tgt := 65) C.1 C.2.1 dX8_sizesRead_53 (by decide) (fun hc => ?_) (fun hc => ?_)
        · have h := (if_pos hc).symm.trans h
          exact B_65 _ _ _ _ _ h w (show lv_has ls 5 [(0, .ref (B + th)), (1, .int a1), (2, .int v2)] from lv_sub hl [0, 1, 2] rfl)
        · have h := (if_neg hc).symm.trans h
          refine lv_aload_n C.1 C.2.1 dX8_sizesRead_56 rfl (lv_at hl 0 rfl) ?_
          refine lv_bipush (v := 6) C.1 C.2.1 dX8_sizesRead_57 (by decide) ?_
          obtain ⟨o5, ho5, h⟩ := g_bd h
          refine g_callV (n := 1) (As := [.int 6]) (rest := []) C w (m_X8_fails sth kth ho5) (cl_8).1 sth kth (by decide) ml_X8_123 iy_X8_fails sy_X8_fails in_X8 cy_X8_fails ⟨rfl, by decide +kernel, by decide +kernel, by decide +kernel⟩ rfl ⟨Nat.le_of_ble_eq_true rfl, Nat.le_of_ble_eq_true rfl⟩ rfl (Nat.le_of_ble_eq_true rfl) hl.1 ⟨Nat.le_of_ble_eq_true rfl, Nat.le_of_ble_eq_true rfl⟩ dX8_sizesRead_59 (fun H locs w => ?_)
          refine lv_if_eq (tgt := 85) C.1 C.2.1 dX8_sizesRead_62 (by decide) (fun hc => ?_) (fun hc => ?_)
          · have h := (if_pos hc).symm.trans h
            refine lv_iconst (v := 0) C.1 C.2.1 dX8_sizesRead_85 (by decide) ?_
            refine lv_istore (lv' := [(4, .int 0), (0, .ref (B + th)), (1, .int a1), (2, .int v2), (3, .int v3)]) C.1 C.2.1 dX8_sizesRead_86 hl (by decide) rfl (fun ls hl => ?_)
            refine lv_aload_n C.1 C.2.1 dX8_sizesRead_88 rfl (lv_at hl 1 rfl) ?_
            refine g_getI C w fl_X8_134 sth kth (by decide) (fun _ _ _ => rfl) dX8_sizesRead_89 ?_
            refine lv_istore_n (lv' := [(3, .int (gI o5.1 th 14)), (4, .int 0), (0, .ref (B + th)), (1, .int a1), (2, .int v2)]) C.1 C.2.1 dX8_sizesRead_92 rfl hl (by decide) rfl (fun ls hl => ?_)
            refine lv_iinc (k := 4) (v := v2 + 1) (lv' := [(2, .int (v2 + 1)), (3, .int (gI o5.1 th 14)), (4, .int 0), (0, .ref (B + th)), (1, .int a1)]) C.1 C.2.1 dX8_sizesRead_93 hl rfl rfl (by decide) rfl (fun ls hl => ?_)
            refine lv_goto (tgt := 7) C.1 C.2.1 dX8_sizesRead_96 (by decide) ?_
            exact ih7 _ _ _ _ _ _ _ h w (show lv_has ls 5 [(0, .ref (B + th)), (1, .int a1), (2, .int (v2 + 1)), (3, .int (gI o5.1 th 14)), (4, .int 0)] from lv_sub hl [3, 4, 0, 1, 2] rfl)
          · have h := (if_neg hc).symm.trans h
            exact B_65 _ _ _ _ _ h w (show lv_has ls 5 [(0, .ref (B + th)), (1, .int a1), (2, .int v2)] from lv_sub hl [0, 1, 2] rfl)
      have B_24 : ∀ (σ : GS) (v2 : Int32) (v3 : Int32) (H : Heap) (locs : List Loc) (ls : Array Slot), J_X8_sizesRead_24 (L_X8_sizesRead_7 th a1 n7) th a1 σ v2 v3 = some o → WS D cA B S σ s H locs → lv_has ls 5 [(0, .ref (B + th)), (1, .int a1), (2, .int v2), (3, .int v3)] → W p l e (rmF 5 108) s m args below meth c H locs 0 0 (MQ below (QF D cA B S o.1 (some (.int o.2))) args s 0 0 (AB B S)) (F0 m 24 ls []) := by
        intro σ v2 v3 H locs ls h  w hl
        unfold J_X8_sizesRead_24 at h
        refine lv_aload_n C.1 C.2.1 dX8_sizesRead_24 rfl (lv_at hl 0 rfl) ?_
        refine lv_iconst (v := 1) C.1 C.2.1 dX8_sizesRead_25 (by decide) ?_
        refine lv_sipush (v := 9999) C.1 C.2.1 dX8_sizesRead_26 (by decide) ?_
        obtain ⟨o3, ho3, h⟩ := g_bd h
        refine g_callV (n := 2) (As := [.int 1, .int 9999]) (rest := []) C w (m_X8_isNumber sth kth ho3) (cl_8).1 sth kth (by decide) ml_X8_130 iy_X8_isNumber sy_X8_isNumber in_X8 cy_X8_isNumber ⟨rfl, by decide +kernel, by decide +kernel, by decide +kernel⟩ rfl ⟨Nat.le_of_ble_eq_true rfl, Nat.le_of_ble_eq_true rfl⟩ rfl (Nat.le_of_ble_eq_true rfl) hl.1 ⟨Nat.le_of_ble_eq_true rfl, Nat.le_of_ble_eq_true rfl⟩ dX8_sizesRead_29 (fun H locs w => ?_)
        refine lv_if_eq (tgt := 85) C.1 C.2.1 dX8_sizesRead_32 (by decide) (fun hc => ?_) (fun hc => ?_)
        · have h := (if_pos hc).symm.trans h
          refine lv_iconst (v := 0) C.1 C.2.1 dX8_sizesRead_85 (by decide) ?_
          refine lv_istore (lv' := [(4, .int 0), (0, .ref (B + th)), (1, .int a1), (2, .int v2), (3, .int v3)]) C.1 C.2.1 dX8_sizesRead_86 hl (by decide) rfl (fun ls hl => ?_)
          refine lv_aload_n C.1 C.2.1 dX8_sizesRead_88 rfl (lv_at hl 1 rfl) ?_
          refine g_getI C w fl_X8_134 sth kth (by decide) (fun _ _ _ => rfl) dX8_sizesRead_89 ?_
          refine lv_istore_n (lv' := [(3, .int (gI o3.1 th 14)), (4, .int 0), (0, .ref (B + th)), (1, .int a1), (2, .int v2)]) C.1 C.2.1 dX8_sizesRead_92 rfl hl (by decide) rfl (fun ls hl => ?_)
          refine lv_iinc (k := 4) (v := v2 + 1) (lv' := [(2, .int (v2 + 1)), (3, .int (gI o3.1 th 14)), (4, .int 0), (0, .ref (B + th)), (1, .int a1)]) C.1 C.2.1 dX8_sizesRead_93 hl rfl rfl (by decide) rfl (fun ls hl => ?_)
          refine lv_goto (tgt := 7) C.1 C.2.1 dX8_sizesRead_96 (by decide) ?_
          exact ih7 _ _ _ _ _ _ _ h w (show lv_has ls 5 [(0, .ref (B + th)), (1, .int a1), (2, .int (v2 + 1)), (3, .int (gI o3.1 th 14)), (4, .int 0)] from lv_sub hl [3, 4, 0, 1, 2] rfl)
        · have h := (if_neg hc).symm.trans h
          refine lv_iload_n C.1 C.2.1 dX8_sizesRead_35 rfl (lv_at hl 2 rfl) ?_
          refine lv_iconst (v := 4) C.1 C.2.1 dX8_sizesRead_36 (by decide) ?_
          refine lv_icmp_lt (tgt := 48) C.1 C.2.1 dX8_sizesRead_37 (by decide) (fun hc => ?_) (fun hc => ?_)
          · have h := (if_pos hc).symm.trans h
            exact B_48 _ _ _ _ _ _ h w (show lv_has ls 5 [(0, .ref (B + th)), (1, .int a1), (2, .int v2), (3, .int v3)] from lv_sub hl [0, 1, 2, 3] rfl)
          · have h := (if_neg hc).symm.trans h
            refine lv_aload_n C.1 C.2.1 dX8_sizesRead_40 rfl (lv_at hl 0 rfl) ?_
            refine lv_iconst (v := 5) C.1 C.2.1 dX8_sizesRead_41 (by decide) ?_
            obtain ⟨o4, ho4, h⟩ := g_bd h
            refine g_callV (n := 1) (As := [.int 5]) (rest := []) C w (m_X8_fails sth kth ho4) (cl_8).1 sth kth (by decide) ml_X8_123 iy_X8_fails sy_X8_fails in_X8 cy_X8_fails ⟨rfl, by decide +kernel, by decide +kernel, by decide +kernel⟩ rfl ⟨Nat.le_of_ble_eq_true rfl, Nat.le_of_ble_eq_true rfl⟩ rfl (Nat.le_of_ble_eq_true rfl) hl.1 ⟨Nat.le_of_ble_eq_true rfl, Nat.le_of_ble_eq_true rfl⟩ dX8_sizesRead_42 (fun H locs w => ?_)
            refine lv_if_eq (tgt := 85) C.1 C.2.1 dX8_sizesRead_45 (by decide) (fun hc => ?_) (fun hc => ?_)
            · have h := (if_pos hc).symm.trans h
              refine lv_iconst (v := 0) C.1 C.2.1 dX8_sizesRead_85 (by decide) ?_
              refine lv_istore (lv' := [(4, .int 0), (0, .ref (B + th)), (1, .int a1), (2, .int v2), (3, .int v3)]) C.1 C.2.1 dX8_sizesRead_86 hl (by decide) rfl (fun ls hl => ?_)
              refine lv_aload_n C.1 C.2.1 dX8_sizesRead_88 rfl (lv_at hl 1 rfl) ?_
              refine g_getI C w fl_X8_134 sth kth (by decide) (fun _ _ _ => rfl) dX8_sizesRead_89 ?_
              refine lv_istore_n (lv' := [(3, .int (gI o4.1 th 14)), (4, .int 0), (0, .ref (B + th)), (1, .int a1), (2, .int v2)]) C.1 C.2.1 dX8_sizesRead_92 rfl hl (by decide) rfl (fun ls hl => ?_)
              refine lv_iinc (k := 4) (v := v2 + 1) (lv' := [(2, .int (v2 + 1)), (3, .int (gI o4.1 th 14)), (4, .int 0), (0, .ref (B + th)), (1, .int a1)]) C.1 C.2.1 dX8_sizesRead_93 hl rfl rfl (by decide) rfl (fun ls hl => ?_)
              refine lv_goto (tgt := 7) C.1 C.2.1 dX8_sizesRead_96 (by decide) ?_
              exact ih7 _ _ _ _ _ _ _ h w (show lv_has ls 5 [(0, .ref (B + th)), (1, .int a1), (2, .int (v2 + 1)), (3, .int (gI o4.1 th 14)), (4, .int 0)] from lv_sub hl [3, 4, 0, 1, 2] rfl)
            · have h := (if_neg hc).symm.trans h
              exact B_48 _ _ _ _ _ _ h w (show lv_has ls 5 [(0, .ref (B + th)), (1, .int a1), (2, .int v2), (3, .int v3)] from lv_sub hl [0, 1, 2, 3] rfl)
      intro σ v2 v3 v4 H locs ls h  w hl
      unfold L_X8_sizesRead_7 at h
      refine lv_iload C.1 C.2.1 dX8_sizesRead_7 (lv_at hl 4 rfl) ?_
      refine lv_if_eq (tgt := 99) C.1 C.2.1 dX8_sizesRead_9 (by decide) (fun hc => ?_) (fun hc => ?_)
      · have h := (if_pos hc).symm.trans h
        exact B_99 _ _ _ _ _ _ h w (show lv_has ls 5 [(0, .ref (B + th)), (1, .int a1), (2, .int v2), (4, .int v4)] from lv_sub hl [0, 1, 2, 4] rfl)
      · have h := (if_neg hc).symm.trans h
        refine lv_aload_n C.1 C.2.1 dX8_sizesRead_12 rfl (lv_at hl 0 rfl) ?_
        refine g_getI C w fl_X8_105 sth kth (by decide) (fun _ _ _ => rfl) dX8_sizesRead_13 ?_
        refine lv_iconst (v := 2) C.1 C.2.1 dX8_sizesRead_16 (by decide) ?_
        refine lv_icmp_eq (tgt := 24) C.1 C.2.1 dX8_sizesRead_17 (by decide) (fun hc => ?_) (fun hc => ?_)
        · have h := (if_pos hc).symm.trans h
          exact B_24 _ _ _ _ _ _ h w (show lv_has ls 5 [(0, .ref (B + th)), (1, .int a1), (2, .int v2), (3, .int v3)] from lv_sub hl [0, 1, 2, 3] rfl)
        · have h := (if_neg hc).symm.trans h
          refine lv_iload_n C.1 C.2.1 dX8_sizesRead_20 rfl (lv_at hl 2 rfl) ?_
          refine lv_if_ne (tgt := 99) C.1 C.2.1 dX8_sizesRead_21 (by decide) (fun hc => ?_) (fun hc => ?_)
          · have h := (if_neg hc).symm.trans h
            exact B_99 _ _ _ _ _ _ h w (show lv_has ls 5 [(0, .ref (B + th)), (1, .int a1), (2, .int v2), (4, .int v4)] from lv_sub hl [0, 1, 2, 4] rfl)
          · have h := (if_pos hc).symm.trans h
            exact B_24 _ _ _ _ _ _ h w (show lv_has ls 5 [(0, .ref (B + th)), (1, .int a1), (2, .int v2), (3, .int v3)] from lv_sub hl [0, 1, 2, 3] rfl)
  have h := h0
  unfold F_X8_sizesRead at h
  refine lv_iconst (v := 0) C.1 C.2.1 dX8_sizesRead_0 (by decide) ?_
  refine lv_istore_n (lv' := [(2, .int 0), (0, .ref (B + th)), (1, .int a1)]) C.1 C.2.1 dX8_sizesRead_1 rfl hl (by decide) rfl (fun ls hl => ?_)
  refine lv_iconst (v := 0) C.1 C.2.1 dX8_sizesRead_2 (by decide) ?_
  refine lv_istore_n (lv' := [(3, .int 0), (2, .int 0), (0, .ref (B + th)), (1, .int a1)]) C.1 C.2.1 dX8_sizesRead_3 rfl hl (by decide) rfl (fun ls hl => ?_)
  refine lv_iconst (v := 1) C.1 C.2.1 dX8_sizesRead_4 (by decide) ?_
  refine lv_istore (lv' := [(4, .int 1), (3, .int 0), (2, .int 0), (0, .ref (B + th)), (1, .int a1)]) C.1 C.2.1 dX8_sizesRead_5 hl (by decide) rfl (fun ls hl => ?_)
  exact B_7 _ _ _ _ _ _ _ _ h w (show lv_has ls 5 [(0, .ref (B + th)), (1, .int a1), (2, .int 0), (3, .int 0), (4, .int 1)] from lv_sub hl [3, 4, 2, 1, 0] rfl)

set_option maxHeartbeats 4000000 in
set_option maxRecDepth 100000 in
theorem m_X8_playerLine {l : Launch} {D : va_G} {cA : Nat → ClassId} {B : Nat} {S : Nat → Prop} {σ : GS} {th : Nat} {o : GS × Int32} (sth : S th) (kth : kdG th = 8) (h0 : F_X8_playerLine σ th = some o) : MF l yX8_playerLine cX8_playerLine 6 (some .boolean) 6 132 D cA B S [.ref (B + th)] σ o.1 (some (.int o.2)) := by
  refine MF.of (by decide +kernel) (Nat.le_of_ble_eq_true rfl) ?_
  intro p e s m args below meth c C hr w ls hl
  have hl : lv_has ls 6 [(0, .ref (B + th))] := hl
  have B_151 : ∀ (σ : GS) (v1 : Int32) (v2 : Int64) (v4 : Int32) (v5 : Int32) (u0 : Int32) (H : Heap) (locs : List Loc) (ls : Array Slot), J_X8_playerLine_151 th σ v1 v2 v4 v5 u0 = some o → WS D cA B S σ s H locs → lv_has ls 6 [(0, .ref (B + th)), (1, .int v1), (2, .long v2), (4, .int v4), (5, .int v5)] → W p l e (rmF 6 132) s m args below meth c H locs 0 0 (MQ below (QF D cA B S o.1 (some (.int o.2))) args s 0 0 (AB B S)) (F0 m 151 ls [.int u0, .int 1, .ref (B + th)]) := by
    intro σ v1 v2 v4 v5 u0 H locs ls h  w hl
    unfold J_X8_playerLine_151 at h
    obtain ⟨o11, ho11, h⟩ := g_bd h
    refine g_callV (n := 2) (As := [.int 1, .int u0]) (rest := []) C w (m_X8_starts sth kth ho11) (cl_8).1 sth kth (by decide) ml_X8_140 iy_X8_starts sy_X8_starts in_X8 cy_X8_starts ⟨rfl, by decide +kernel, by decide +kernel, by decide +kernel⟩ rfl ⟨Nat.le_of_ble_eq_true rfl, Nat.le_of_ble_eq_true rfl⟩ rfl (Nat.le_of_ble_eq_true rfl) hl.1 ⟨Nat.le_of_ble_eq_true rfl, Nat.le_of_ble_eq_true rfl⟩ dX8_playerLine_151 (fun H locs w => ?_)
    refine lv_if_eq (tgt := 181) C.1 C.2.1 dX8_playerLine_154 (by decide) (fun hc => ?_) (fun hc => ?_)
    · have h := (if_pos hc).symm.trans h
      refine lv_iconst (v := 0) C.1 C.2.1 dX8_playerLine_181 (by decide) ?_
      exact g_zretB C w hr (by decide) dX8_playerLine_182 h
    · have h := (if_neg hc).symm.trans h
      refine lv_aload_n C.1 C.2.1 dX8_playerLine_157 rfl (lv_at hl 0 rfl) ?_
      refine lv_iload C.1 C.2.1 dX8_playerLine_158 (lv_at hl 4 rfl) ?_
      refine lv_iconst (v := 0) C.1 C.2.1 dX8_playerLine_160 (by decide) ?_
      refine lv_iadd C.1 C.2.1 dX8_playerLine_161 ?_
      refine lv_iconst (v := 1) C.1 C.2.1 dX8_playerLine_162 (by decide) ?_
      refine lv_bipush (v := 30) C.1 C.2.1 dX8_playerLine_163 (by decide) ?_
      obtain ⟨o12, ho12, h⟩ := g_bd h
      refine g_callV (n := 3) (As := [.int (v5 + 0), .int 1, .int 30]) (rest := []) C w (m_X8_lays sth kth ho12) (cl_8).1 sth kth (by decide) ml_X8_144 iy_X8_lays sy_X8_lays in_X8 cy_X8_lays ⟨rfl, by decide +kernel, by decide +kernel, by decide +kernel⟩ rfl ⟨Nat.le_of_ble_eq_true rfl, Nat.le_of_ble_eq_true rfl⟩ rfl (Nat.le_of_ble_eq_true rfl) hl.1 ⟨Nat.le_of_ble_eq_true rfl, Nat.le_of_ble_eq_true rfl⟩ dX8_playerLine_165 (fun H locs w => ?_)
      refine lv_if_eq (tgt := 181) C.1 C.2.1 dX8_playerLine_168 (by decide) (fun hc => ?_) (fun hc => ?_)
      · have h := (if_pos hc).symm.trans h
        refine lv_iconst (v := 0) C.1 C.2.1 dX8_playerLine_181 (by decide) ?_
        exact g_zretB C w hr (by decide) dX8_playerLine_182 h
      · have h := (if_neg hc).symm.trans h
        refine lv_aload_n C.1 C.2.1 dX8_playerLine_171 rfl (lv_at hl 0 rfl) ?_
        refine lv_iconst (v := 1) C.1 C.2.1 dX8_playerLine_172 (by decide) ?_
        refine lv_bipush (v := 9) C.1 C.2.1 dX8_playerLine_173 (by decide) ?_
        obtain ⟨o13, ho13, h⟩ := g_bd h
        refine g_callV (n := 2) (As := [.int 1, .int 9]) (rest := []) C w (m_X8_takes sth kth ho13) (cl_8).1 sth kth (by decide) ml_X8_137 iy_X8_takes sy_X8_takes in_X8 cy_X8_takes ⟨rfl, by decide +kernel, by decide +kernel, by decide +kernel⟩ rfl ⟨Nat.le_of_ble_eq_true rfl, Nat.le_of_ble_eq_true rfl⟩ rfl (Nat.le_of_ble_eq_true rfl) hl.1 ⟨Nat.le_of_ble_eq_true rfl, Nat.le_of_ble_eq_true rfl⟩ dX8_playerLine_175 (fun H locs w => ?_)
        refine lv_if_ne (tgt := 183) C.1 C.2.1 dX8_playerLine_178 (by decide) (fun hc => ?_) (fun hc => ?_)
        · have h := (if_neg hc).symm.trans h
          refine lv_aload_n C.1 C.2.1 dX8_playerLine_183 rfl (lv_at hl 0 rfl) ?_
          refine g_getR C w fl_X8_37 sth kth (by decide) kt_8_20 (fun _ _ _ => rfl) dX8_playerLine_184 (fun s14 k14 => ?_)
          refine lv_iload_n C.1 C.2.1 dX8_playerLine_187 rfl (lv_at hl 1 rfl) ?_
          refine lv_aload_n C.1 C.2.1 dX8_playerLine_188 rfl (lv_at hl 0 rfl) ?_
          refine g_getI C w fl_X8_134 sth kth (by decide) (fun _ _ _ => rfl) dX8_playerLine_189 ?_
          obtain ⟨hb, h⟩ := g_ob h
          refine g_iast C w s14 k14 hb dX8_playerLine_192 (fun H locs w => ?_)
          refine lv_aload_n C.1 C.2.1 dX8_playerLine_193 rfl (lv_at hl 0 rfl) ?_
          refine lv_iload C.1 C.2.1 dX8_playerLine_194 (lv_at hl 4 rfl) ?_
          obtain ⟨o16, ho16, h⟩ := g_bd h
          refine g_callV (n := 1) (As := [.int v5]) (rest := []) C w (m_X8_sizesRead sth kth ho16) (cl_8).1 sth kth (by decide) ml_X8_170 iy_X8_sizesRead sy_X8_sizesRead in_X8 cy_X8_sizesRead ⟨rfl, by decide +kernel, by decide +kernel, by decide +kernel⟩ rfl ⟨Nat.le_of_ble_eq_true rfl, Nat.le_of_ble_eq_true rfl⟩ rfl (Nat.le_of_ble_eq_true rfl) hl.1 ⟨Nat.le_of_ble_eq_true rfl, Nat.le_of_ble_eq_true rfl⟩ dX8_playerLine_196 (fun H locs w => ?_)
          refine lv_if_ne (tgt := 204) C.1 C.2.1 dX8_playerLine_199 (by decide) (fun hc => ?_) (fun hc => ?_)
          · have h := (if_neg hc).symm.trans h
            refine lv_aload_n C.1 C.2.1 dX8_playerLine_204 rfl (lv_at hl 0 rfl) ?_
            refine g_getR C w fl_X8_40 sth kth (by decide) kt_8_21 (fun _ _ _ => rfl) dX8_playerLine_205 (fun s17 k17 => ?_)
            refine lv_iload_n C.1 C.2.1 dX8_playerLine_208 rfl (lv_at hl 1 rfl) ?_
            refine lv_lload_n C.1 C.2.1 dX8_playerLine_209 rfl (lv_at hl 2 rfl) ?_
            obtain ⟨hb, h⟩ := g_ob h
            refine g_last C w s17 k17 hb dX8_playerLine_210 (fun H locs w => ?_)
            refine lv_aload_n C.1 C.2.1 dX8_playerLine_211 rfl (lv_at hl 0 rfl) ?_
            refine g_getR C w fl_X8_34 sth kth (by decide) kt_8_19 (fun _ _ _ => rfl) dX8_playerLine_212 (fun s19 k19 => ?_)
            refine lv_iload_n C.1 C.2.1 dX8_playerLine_215 rfl (lv_at hl 1 rfl) ?_
            refine lv_iload C.1 C.2.1 dX8_playerLine_216 (lv_at hl 3 rfl) ?_
            obtain ⟨hb, h⟩ := g_ob h
            refine g_iast C w s19 k19 hb dX8_playerLine_218 (fun H locs w => ?_)
            refine lv_aload_n C.1 C.2.1 dX8_playerLine_219 rfl (lv_at hl 0 rfl) ?_
            refine g_getR C w fl_X8_28 sth kth (by decide) kt_8_17 (fun _ _ _ => rfl) dX8_playerLine_220 (fun s21 k21 => ?_)
            refine lv_iconst (v := 4) C.1 C.2.1 dX8_playerLine_223 (by decide) ?_
            refine lv_dup2_11 C.1 C.2.1 dX8_playerLine_224 rfl rfl ?_
            obtain ⟨hb, h⟩ := g_ob h
            refine g_iald C w s21 k21 hb dX8_playerLine_225 ?_
            refine lv_iconst (v := 1) C.1 C.2.1 dX8_playerLine_226 (by decide) ?_
            refine lv_iadd C.1 C.2.1 dX8_playerLine_227 ?_
            obtain ⟨hb, h⟩ := g_ob h
            refine g_iast C w s21 k21 hb dX8_playerLine_228 (fun H locs w => ?_)
            refine lv_iconst (v := 1) C.1 C.2.1 dX8_playerLine_229 (by decide) ?_
            exact g_zretB C w hr (by decide) dX8_playerLine_230 h
          · have h := (if_pos hc).symm.trans h
            refine lv_iconst (v := 0) C.1 C.2.1 dX8_playerLine_202 (by decide) ?_
            exact g_zretB C w hr (by decide) dX8_playerLine_203 h
        · have h := (if_pos hc).symm.trans h
          refine lv_iconst (v := 0) C.1 C.2.1 dX8_playerLine_181 (by decide) ?_
          exact g_zretB C w hr (by decide) dX8_playerLine_182 h
  have B_127 : ∀ (σ : GS) (v1 : Int32) (v2 : Int64) (u0 : Int32) (H : Heap) (locs : List Loc) (ls : Array Slot), J_X8_playerLine_127 th σ v1 v2 u0 = some o → WS D cA B S σ s H locs → lv_has ls 6 [(0, .ref (B + th)), (1, .int v1), (2, .long v2)] → W p l e (rmF 6 132) s m args below meth c H locs 0 0 (MQ below (QF D cA B S o.1 (some (.int o.2))) args s 0 0 (AB B S)) (F0 m 127 ls [.int u0]) := by
    intro σ v1 v2 u0 H locs ls h  w hl
    unfold J_X8_playerLine_127 at h
    refine lv_istore (lv' := [(4, .int u0), (0, .ref (B + th)), (1, .int v1), (2, .long v2)]) C.1 C.2.1 dX8_playerLine_127 hl (by decide) rfl (fun ls hl => ?_)
    refine lv_bipush (v := 19) C.1 C.2.1 dX8_playerLine_129 (by decide) ?_
    refine lv_bipush (v := 7) C.1 C.2.1 dX8_playerLine_131 (by decide) ?_
    refine lv_iload_n C.1 C.2.1 dX8_playerLine_133 rfl (lv_at hl 2 rfl) ?_
    refine lv_imul C.1 C.2.1 dX8_playerLine_134 ?_
    refine lv_iadd C.1 C.2.1 dX8_playerLine_135 ?_
    refine lv_istore (lv' := [(5, .int (19 + (7 * v1))), (4, .int u0), (0, .ref (B + th)), (1, .int v1), (2, .long v2)]) C.1 C.2.1 dX8_playerLine_136 hl (by decide) rfl (fun ls hl => ?_)
    refine lv_aload_n C.1 C.2.1 dX8_playerLine_138 rfl (lv_at hl 2 rfl) ?_
    refine lv_iconst (v := 1) C.1 C.2.1 dX8_playerLine_139 (by decide) ?_
    refine lv_iload C.1 C.2.1 dX8_playerLine_140 (lv_at hl 1 rfl) ?_
    refine lv_iconst (v := (-1)) C.1 C.2.1 dX8_playerLine_142 (by decide) ?_
    refine lv_icmp_eq (tgt := 150) C.1 C.2.1 dX8_playerLine_143 (by decide) (fun hc => ?_) (fun hc => ?_)
    · have h := (if_pos hc).symm.trans h
      refine lv_iconst (v := 0) C.1 C.2.1 dX8_playerLine_150 (by decide) ?_
      exact B_151 _ _ _ _ _ _ _ _ _ h w (show lv_has ls 6 [(0, .ref (B + th)), (1, .int v1), (2, .long v2), (4, .int u0), (5, .int (19 + (7 * v1)))] from lv_sub hl [2, 3, 4, 1, 0] rfl)
    · have h := (if_neg hc).symm.trans h
      refine lv_iconst (v := 1) C.1 C.2.1 dX8_playerLine_146 (by decide) ?_
      refine lv_goto (tgt := 151) C.1 C.2.1 dX8_playerLine_147 (by decide) ?_
      exact B_151 _ _ _ _ _ _ _ _ _ h w (show lv_has ls 6 [(0, .ref (B + th)), (1, .int v1), (2, .long v2), (4, .int u0), (5, .int (19 + (7 * v1)))] from lv_sub hl [2, 3, 4, 1, 0] rfl)
  have B_66 : ∀ (σ : GS) (v1 : Int32) (v2 : Int64) (u0 : Int32) (H : Heap) (locs : List Loc) (ls : Array Slot), J_X8_playerLine_66 th σ v1 v2 u0 = some o → WS D cA B S σ s H locs → lv_has ls 6 [(0, .ref (B + th)), (1, .int v1), (2, .long v2)] → W p l e (rmF 6 132) s m args below meth c H locs 0 0 (MQ below (QF D cA B S o.1 (some (.int o.2))) args s 0 0 (AB B S)) (F0 m 66 ls [.int u0, .int 2, .ref (B + th)]) := by
    intro σ v1 v2 u0 H locs ls h  w hl
    unfold J_X8_playerLine_66 at h
    obtain ⟨o6, ho6, h⟩ := g_bd h
    refine g_callV (n := 2) (As := [.int 2, .int u0]) (rest := []) C w (m_X8_starts sth kth ho6) (cl_8).1 sth kth (by decide) ml_X8_140 iy_X8_starts sy_X8_starts in_X8 cy_X8_starts ⟨rfl, by decide +kernel, by decide +kernel, by decide +kernel⟩ rfl ⟨Nat.le_of_ble_eq_true rfl, Nat.le_of_ble_eq_true rfl⟩ rfl (Nat.le_of_ble_eq_true rfl) hl.1 ⟨Nat.le_of_ble_eq_true rfl, Nat.le_of_ble_eq_true rfl⟩ dX8_playerLine_66 (fun H locs w => ?_)
    refine lv_if_ne (tgt := 74) C.1 C.2.1 dX8_playerLine_69 (by decide) (fun hc => ?_) (fun hc => ?_)
    · have h := (if_neg hc).symm.trans h
      refine lv_aload_n C.1 C.2.1 dX8_playerLine_74 rfl (lv_at hl 0 rfl) ?_
      refine g_ldcS (t := 14) C w rfl ⟨rfl, rfl⟩ dX8_playerLine_75 ?_
      obtain ⟨o7, ho7, h⟩ := g_bd h
      refine g_callV (n := 1) (As := [.ref (D.2 100 14)]) (rest := []) C w (m_X8_isWord sth kth (by decide) ho7) (cl_8).1 sth kth (by decide) ml_X8_160 iy_X8_isWord sy_X8_isWord in_X8 cy_X8_isWord ⟨rfl, by decide +kernel, by decide +kernel, by decide +kernel⟩ rfl ⟨Nat.le_of_ble_eq_true rfl, Nat.le_of_ble_eq_true rfl⟩ rfl (Nat.le_of_ble_eq_true rfl) hl.1 ⟨Nat.le_of_ble_eq_true rfl, Nat.le_of_ble_eq_true rfl⟩ dX8_playerLine_77 (fun H locs w => ?_)
      refine lv_if_eq (tgt := 87) C.1 C.2.1 dX8_playerLine_80 (by decide) (fun hc => ?_) (fun hc => ?_)
      · have h := (if_pos hc).symm.trans h
        refine lv_aload_n C.1 C.2.1 dX8_playerLine_87 rfl (lv_at hl 0 rfl) ?_
        refine g_ldcS (t := 15) C w rfl ⟨rfl, rfl⟩ dX8_playerLine_88 ?_
        obtain ⟨o8, ho8, h⟩ := g_bd h
        refine g_callV (n := 1) (As := [.ref (D.2 100 15)]) (rest := []) C w (m_X8_isWord sth kth (by decide) ho8) (cl_8).1 sth kth (by decide) ml_X8_160 iy_X8_isWord sy_X8_isWord in_X8 cy_X8_isWord ⟨rfl, by decide +kernel, by decide +kernel, by decide +kernel⟩ rfl ⟨Nat.le_of_ble_eq_true rfl, Nat.le_of_ble_eq_true rfl⟩ rfl (Nat.le_of_ble_eq_true rfl) hl.1 ⟨Nat.le_of_ble_eq_true rfl, Nat.le_of_ble_eq_true rfl⟩ dX8_playerLine_90 (fun H locs w => ?_)
        refine lv_if_eq (tgt := 100) C.1 C.2.1 dX8_playerLine_93 (by decide) (fun hc => ?_) (fun hc => ?_)
        · have h := (if_pos hc).symm.trans h
          refine lv_aload_n C.1 C.2.1 dX8_playerLine_100 rfl (lv_at hl 0 rfl) ?_
          refine g_ldcS (t := 16) C w rfl ⟨rfl, rfl⟩ dX8_playerLine_101 ?_
          obtain ⟨o9, ho9, h⟩ := g_bd h
          refine g_callV (n := 1) (As := [.ref (D.2 100 16)]) (rest := []) C w (m_X8_isWord sth kth (by decide) ho9) (cl_8).1 sth kth (by decide) ml_X8_160 iy_X8_isWord sy_X8_isWord in_X8 cy_X8_isWord ⟨rfl, by decide +kernel, by decide +kernel, by decide +kernel⟩ rfl ⟨Nat.le_of_ble_eq_true rfl, Nat.le_of_ble_eq_true rfl⟩ rfl (Nat.le_of_ble_eq_true rfl) hl.1 ⟨Nat.le_of_ble_eq_true rfl, Nat.le_of_ble_eq_true rfl⟩ dX8_playerLine_103 (fun H locs w => ?_)
          refine lv_if_eq (tgt := 113) C.1 C.2.1 dX8_playerLine_106 (by decide) (fun hc => ?_) (fun hc => ?_)
          · have h := (if_pos hc).symm.trans h
            refine lv_aload_n C.1 C.2.1 dX8_playerLine_113 rfl (lv_at hl 0 rfl) ?_
            refine g_ldcS (t := 17) C w rfl ⟨rfl, rfl⟩ dX8_playerLine_114 ?_
            obtain ⟨o10, ho10, h⟩ := g_bd h
            refine g_callV (n := 1) (As := [.ref (D.2 100 17)]) (rest := []) C w (m_X8_isWord sth kth (by decide) ho10) (cl_8).1 sth kth (by decide) ml_X8_160 iy_X8_isWord sy_X8_isWord in_X8 cy_X8_isWord ⟨rfl, by decide +kernel, by decide +kernel, by decide +kernel⟩ rfl ⟨Nat.le_of_ble_eq_true rfl, Nat.le_of_ble_eq_true rfl⟩ rfl (Nat.le_of_ble_eq_true rfl) hl.1 ⟨Nat.le_of_ble_eq_true rfl, Nat.le_of_ble_eq_true rfl⟩ dX8_playerLine_116 (fun H locs w => ?_)
            refine lv_if_eq (tgt := 126) C.1 C.2.1 dX8_playerLine_119 (by decide) (fun hc => ?_) (fun hc => ?_)
            · have h := (if_pos hc).symm.trans h
              refine lv_iconst (v := (-1)) C.1 C.2.1 dX8_playerLine_126 (by decide) ?_
              exact B_127 _ _ _ _ _ _ _ h w (show lv_has ls 6 [(0, .ref (B + th)), (1, .int v1), (2, .long v2)] from lv_sub hl [0, 1, 2] rfl)
            · have h := (if_neg hc).symm.trans h
              refine lv_iconst (v := 3) C.1 C.2.1 dX8_playerLine_122 (by decide) ?_
              refine lv_goto (tgt := 127) C.1 C.2.1 dX8_playerLine_123 (by decide) ?_
              exact B_127 _ _ _ _ _ _ _ h w (show lv_has ls 6 [(0, .ref (B + th)), (1, .int v1), (2, .long v2)] from lv_sub hl [0, 1, 2] rfl)
          · have h := (if_neg hc).symm.trans h
            refine lv_iconst (v := 2) C.1 C.2.1 dX8_playerLine_109 (by decide) ?_
            refine lv_goto (tgt := 127) C.1 C.2.1 dX8_playerLine_110 (by decide) ?_
            exact B_127 _ _ _ _ _ _ _ h w (show lv_has ls 6 [(0, .ref (B + th)), (1, .int v1), (2, .long v2)] from lv_sub hl [0, 1, 2] rfl)
        · have h := (if_neg hc).symm.trans h
          refine lv_iconst (v := 1) C.1 C.2.1 dX8_playerLine_96 (by decide) ?_
          refine lv_goto (tgt := 127) C.1 C.2.1 dX8_playerLine_97 (by decide) ?_
          exact B_127 _ _ _ _ _ _ _ h w (show lv_has ls 6 [(0, .ref (B + th)), (1, .int v1), (2, .long v2)] from lv_sub hl [0, 1, 2] rfl)
      · have h := (if_neg hc).symm.trans h
        refine lv_iconst (v := 0) C.1 C.2.1 dX8_playerLine_83 (by decide) ?_
        refine lv_goto (tgt := 127) C.1 C.2.1 dX8_playerLine_84 (by decide) ?_
        exact B_127 _ _ _ _ _ _ _ h w (show lv_has ls 6 [(0, .ref (B + th)), (1, .int v1), (2, .long v2)] from lv_sub hl [0, 1, 2] rfl)
    · have h := (if_pos hc).symm.trans h
      refine lv_iconst (v := 0) C.1 C.2.1 dX8_playerLine_72 (by decide) ?_
      exact g_zretB C w hr (by decide) dX8_playerLine_73 h
  have B_19 : ∀ (σ : GS) (v1 : Int32) (u0 : Int32) (H : Heap) (locs : List Loc) (ls : Array Slot), J_X8_playerLine_19 th σ v1 u0 = some o → WS D cA B S σ s H locs → lv_has ls 6 [(0, .ref (B + th)), (1, .int v1)] → W p l e (rmF 6 132) s m args below meth c H locs 0 0 (MQ below (QF D cA B S o.1 (some (.int o.2))) args s 0 0 (AB B S)) (F0 m 19 ls [.int u0, .int 5, .ref (B + th)]) := by
    intro σ v1 u0 H locs ls h  w hl
    unfold J_X8_playerLine_19 at h
    obtain ⟨o2, ho2, h⟩ := g_bd h
    refine g_callV (n := 2) (As := [.int 5, .int u0]) (rest := []) C w (m_X8_starts sth kth ho2) (cl_8).1 sth kth (by decide) ml_X8_140 iy_X8_starts sy_X8_starts in_X8 cy_X8_starts ⟨rfl, by decide +kernel, by decide +kernel, by decide +kernel⟩ rfl ⟨Nat.le_of_ble_eq_true rfl, Nat.le_of_ble_eq_true rfl⟩ rfl (Nat.le_of_ble_eq_true rfl) hl.1 ⟨Nat.le_of_ble_eq_true rfl, Nat.le_of_ble_eq_true rfl⟩ dX8_playerLine_19 (fun H locs w => ?_)
    refine lv_if_ne (tgt := 27) C.1 C.2.1 dX8_playerLine_22 (by decide) (fun hc => ?_) (fun hc => ?_)
    · have h := (if_neg hc).symm.trans h
      refine lv_aload_n C.1 C.2.1 dX8_playerLine_27 rfl (lv_at hl 0 rfl) ?_
      refine g_getI C w fl_X8_105 sth kth (by decide) (fun _ _ _ => rfl) dX8_playerLine_28 ?_
      refine lv_iconst (v := 1) C.1 C.2.1 dX8_playerLine_31 (by decide) ?_
      refine lv_icmp_eq (tgt := 41) C.1 C.2.1 dX8_playerLine_32 (by decide) (fun hc => ?_) (fun hc => ?_)
      · have h := (if_pos hc).symm.trans h
        refine lv_aload_n C.1 C.2.1 dX8_playerLine_41 rfl (lv_at hl 0 rfl) ?_
        refine g_getL C w fl_X8_84 sth kth (by decide) (fun _ _ _ => rfl) dX8_playerLine_42 ?_
        refine lv_lstore_n (lv' := [(2, .long (gL o2.1 th 11)), (0, .ref (B + th)), (1, .int v1)]) C.1 C.2.1 dX8_playerLine_45 rfl hl (by decide) rfl (fun ls hl => ?_)
        refine lv_aload_n C.1 C.2.1 dX8_playerLine_46 rfl (lv_at hl 1 rfl) ?_
        refine lv_iconst (v := 2) C.1 C.2.1 dX8_playerLine_47 (by decide) ?_
        refine lv_aload_n C.1 C.2.1 dX8_playerLine_48 rfl (lv_at hl 1 rfl) ?_
        refine g_getR C w fl_X8_40 sth kth (by decide) kt_8_21 (fun _ _ _ => rfl) dX8_playerLine_49 (fun s3 k3 => ?_)
        refine lv_iload_n C.1 C.2.1 dX8_playerLine_52 rfl (lv_at hl 2 rfl) ?_
        refine lv_lload_n C.1 C.2.1 dX8_playerLine_53 rfl (lv_at hl 0 rfl) ?_
        obtain ⟨o4, ho4, h⟩ := g_bd h
        refine g_callS (n := 3) (As := [.ref (B + (rfG th 21)), .int v1, .long (gL o2.1 th 11)]) (rest := [.int 2, .ref (B + th)]) C w (m_X8_named s3 k3 ho4) ml_X8_151 iy_X8_named in_X8 cy_X8_named ⟨by decide +kernel, by decide +kernel, by decide +kernel⟩ rfl ⟨Nat.le_of_ble_eq_true rfl, Nat.le_of_ble_eq_true rfl⟩ rfl (Nat.le_of_ble_eq_true rfl) hl.1 ⟨Nat.le_of_ble_eq_true rfl, Nat.le_of_ble_eq_true rfl⟩ dX8_playerLine_54 (fun H locs w => ?_)
        refine lv_iconst (v := (-1)) C.1 C.2.1 dX8_playerLine_57 (by decide) ?_
        refine lv_icmp_ne (tgt := 65) C.1 C.2.1 dX8_playerLine_58 (by decide) (fun hc => ?_) (fun hc => ?_)
        · have h := (if_neg hc).symm.trans h
          refine lv_iconst (v := 0) C.1 C.2.1 dX8_playerLine_65 (by decide) ?_
          exact B_66 _ _ _ _ _ _ _ h w (show lv_has ls 6 [(0, .ref (B + th)), (1, .int v1), (2, .long (gL o2.1 th 11))] from lv_sub hl [1, 2, 0] rfl)
        · have h := (if_pos hc).symm.trans h
          refine lv_iconst (v := 1) C.1 C.2.1 dX8_playerLine_61 (by decide) ?_
          refine lv_goto (tgt := 66) C.1 C.2.1 dX8_playerLine_62 (by decide) ?_
          exact B_66 _ _ _ _ _ _ _ h w (show lv_has ls 6 [(0, .ref (B + th)), (1, .int v1), (2, .long (gL o2.1 th 11))] from lv_sub hl [1, 2, 0] rfl)
      · have h := (if_neg hc).symm.trans h
        refine lv_aload_n C.1 C.2.1 dX8_playerLine_35 rfl (lv_at hl 0 rfl) ?_
        refine lv_iconst (v := 1) C.1 C.2.1 dX8_playerLine_36 (by decide) ?_
        obtain ⟨o5, ho5, h⟩ := g_bd h
        refine g_callV (n := 1) (As := [.int 1]) (rest := []) C w (m_X8_fails sth kth ho5) (cl_8).1 sth kth (by decide) ml_X8_123 iy_X8_fails sy_X8_fails in_X8 cy_X8_fails ⟨rfl, by decide +kernel, by decide +kernel, by decide +kernel⟩ rfl ⟨Nat.le_of_ble_eq_true rfl, Nat.le_of_ble_eq_true rfl⟩ rfl (Nat.le_of_ble_eq_true rfl) hl.1 ⟨Nat.le_of_ble_eq_true rfl, Nat.le_of_ble_eq_true rfl⟩ dX8_playerLine_37 (fun H locs w => ?_)
        obtain ⟨hb, hf, h⟩ := g_obz h
        exact g_zretB C w hr hb dX8_playerLine_40 h
    · have h := (if_pos hc).symm.trans h
      refine lv_iconst (v := 0) C.1 C.2.1 dX8_playerLine_25 (by decide) ?_
      exact g_zretB C w hr (by decide) dX8_playerLine_26 h
  have h := h0
  unfold F_X8_playerLine at h
  refine lv_aload_n C.1 C.2.1 dX8_playerLine_0 rfl (lv_at hl 0 rfl) ?_
  refine g_getR C w fl_X8_28 sth kth (by decide) kt_8_17 (fun _ _ _ => rfl) dX8_playerLine_1 (fun s1 k1 => ?_)
  refine lv_iconst (v := 4) C.1 C.2.1 dX8_playerLine_4 (by decide) ?_
  obtain ⟨hb, h⟩ := g_ob h
  refine g_iald C w s1 k1 hb dX8_playerLine_5 ?_
  refine lv_istore_n (lv' := [(1, .int (gI σ (rfG th 17) (4 : Int32).toNatClampNeg)), (0, .ref (B + th))]) C.1 C.2.1 dX8_playerLine_6 rfl hl (by decide) rfl (fun ls hl => ?_)
  refine lv_aload_n C.1 C.2.1 dX8_playerLine_7 rfl (lv_at hl 1 rfl) ?_
  refine lv_iconst (v := 5) C.1 C.2.1 dX8_playerLine_8 (by decide) ?_
  refine lv_iload_n C.1 C.2.1 dX8_playerLine_9 rfl (lv_at hl 0 rfl) ?_
  refine lv_iconst (v := 4) C.1 C.2.1 dX8_playerLine_10 (by decide) ?_
  refine lv_icmp_ge (tgt := 18) C.1 C.2.1 dX8_playerLine_11 (by decide) (fun hc => ?_) (fun hc => ?_)
  · have h := (if_pos hc).symm.trans h
    refine lv_iconst (v := 0) C.1 C.2.1 dX8_playerLine_18 (by decide) ?_
    exact B_19 _ _ _ _ _ _ h w (show lv_has ls 6 [(0, .ref (B + th)), (1, .int (gI σ (rfG th 17) (4 : Int32).toNatClampNeg))] from lv_sub hl [1, 0] rfl)
  · have h := (if_neg hc).symm.trans h
    refine lv_iconst (v := 1) C.1 C.2.1 dX8_playerLine_14 (by decide) ?_
    refine lv_goto (tgt := 19) C.1 C.2.1 dX8_playerLine_15 (by decide) ?_
    exact B_19 _ _ _ _ _ _ h w (show lv_has ls 6 [(0, .ref (B + th)), (1, .int (gI σ (rfG th 17) (4 : Int32).toNatClampNeg))] from lv_sub hl [1, 0] rfl)

set_option maxHeartbeats 4000000 in
set_option maxRecDepth 100000 in
theorem m_X8_statement {l : Launch} {D : va_G} {cA : Nat → ClassId} {B : Nat} {S : Nat → Prop} {σ : GS} {th : Nat} {o : GS × Int32} (sth : S th) (kth : kdG th = 8) (h0 : F_X8_statement σ th = some o) : MF l yX8_statement cX8_statement 1 (some .boolean) 7 157 D cA B S [.ref (B + th)] σ o.1 (some (.int o.2)) := by
  refine MF.of (by decide +kernel) (Nat.le_of_ble_eq_true rfl) ?_
  intro p e s m args below meth c C hr w ls hl
  have hl : lv_has ls 1 [(0, .ref (B + th))] := hl
  have h := h0
  unfold F_X8_statement at h
  refine lv_aload_n C.1 C.2.1 dX8_statement_0 rfl (lv_at hl 0 rfl) ?_
  refine g_ldcS (t := 10) C w rfl ⟨rfl, rfl⟩ dX8_statement_1 ?_
  obtain ⟨o1, ho1, h⟩ := g_bd h
  refine g_callV (n := 1) (As := [.ref (D.2 100 10)]) (rest := []) C w (m_X8_isWord sth kth (by decide) ho1) (cl_8).1 sth kth (by decide) ml_X8_160 iy_X8_isWord sy_X8_isWord in_X8 cy_X8_isWord ⟨rfl, by decide +kernel, by decide +kernel, by decide +kernel⟩ rfl ⟨Nat.le_of_ble_eq_true rfl, Nat.le_of_ble_eq_true rfl⟩ rfl (Nat.le_of_ble_eq_true rfl) hl.1 ⟨Nat.le_of_ble_eq_true rfl, Nat.le_of_ble_eq_true rfl⟩ dX8_statement_3 (fun H locs w => ?_)
  refine lv_if_eq (tgt := 14) C.1 C.2.1 dX8_statement_6 (by decide) (fun hc => ?_) (fun hc => ?_)
  · have h := (if_pos hc).symm.trans h
    refine lv_aload_n C.1 C.2.1 dX8_statement_14 rfl (lv_at hl 0 rfl) ?_
    refine g_ldcS (t := 11) C w rfl ⟨rfl, rfl⟩ dX8_statement_15 ?_
    obtain ⟨o2, ho2, h⟩ := g_bd h
    refine g_callV (n := 1) (As := [.ref (D.2 100 11)]) (rest := []) C w (m_X8_isWord sth kth (by decide) ho2) (cl_8).1 sth kth (by decide) ml_X8_160 iy_X8_isWord sy_X8_isWord in_X8 cy_X8_isWord ⟨rfl, by decide +kernel, by decide +kernel, by decide +kernel⟩ rfl ⟨Nat.le_of_ble_eq_true rfl, Nat.le_of_ble_eq_true rfl⟩ rfl (Nat.le_of_ble_eq_true rfl) hl.1 ⟨Nat.le_of_ble_eq_true rfl, Nat.le_of_ble_eq_true rfl⟩ dX8_statement_17 (fun H locs w => ?_)
    refine lv_if_eq (tgt := 28) C.1 C.2.1 dX8_statement_20 (by decide) (fun hc => ?_) (fun hc => ?_)
    · have h := (if_pos hc).symm.trans h
      refine lv_aload_n C.1 C.2.1 dX8_statement_28 rfl (lv_at hl 0 rfl) ?_
      refine g_ldcS (t := 12) C w rfl ⟨rfl, rfl⟩ dX8_statement_29 ?_
      obtain ⟨o3, ho3, h⟩ := g_bd h
      refine g_callV (n := 1) (As := [.ref (D.2 100 12)]) (rest := []) C w (m_X8_isWord sth kth (by decide) ho3) (cl_8).1 sth kth (by decide) ml_X8_160 iy_X8_isWord sy_X8_isWord in_X8 cy_X8_isWord ⟨rfl, by decide +kernel, by decide +kernel, by decide +kernel⟩ rfl ⟨Nat.le_of_ble_eq_true rfl, Nat.le_of_ble_eq_true rfl⟩ rfl (Nat.le_of_ble_eq_true rfl) hl.1 ⟨Nat.le_of_ble_eq_true rfl, Nat.le_of_ble_eq_true rfl⟩ dX8_statement_31 (fun H locs w => ?_)
      refine lv_if_eq (tgt := 44) C.1 C.2.1 dX8_statement_34 (by decide) (fun hc => ?_) (fun hc => ?_)
      · have h := (if_pos hc).symm.trans h
        refine lv_aload_n C.1 C.2.1 dX8_statement_44 rfl (lv_at hl 0 rfl) ?_
        refine g_ldcS (t := 13) C w rfl ⟨rfl, rfl⟩ dX8_statement_45 ?_
        obtain ⟨o4, ho4, h⟩ := g_bd h
        refine g_callV (n := 1) (As := [.ref (D.2 100 13)]) (rest := []) C w (m_X8_isWord sth kth (by decide) ho4) (cl_8).1 sth kth (by decide) ml_X8_160 iy_X8_isWord sy_X8_isWord in_X8 cy_X8_isWord ⟨rfl, by decide +kernel, by decide +kernel, by decide +kernel⟩ rfl ⟨Nat.le_of_ble_eq_true rfl, Nat.le_of_ble_eq_true rfl⟩ rfl (Nat.le_of_ble_eq_true rfl) hl.1 ⟨Nat.le_of_ble_eq_true rfl, Nat.le_of_ble_eq_true rfl⟩ dX8_statement_47 (fun H locs w => ?_)
        refine lv_if_eq (tgt := 60) C.1 C.2.1 dX8_statement_50 (by decide) (fun hc => ?_) (fun hc => ?_)
        · have h := (if_pos hc).symm.trans h
          refine lv_aload_n C.1 C.2.1 dX8_statement_60 rfl (lv_at hl 0 rfl) ?_
          refine lv_iconst (v := 1) C.1 C.2.1 dX8_statement_61 (by decide) ?_
          obtain ⟨o5, ho5, h⟩ := g_bd h
          refine g_callV (n := 1) (As := [.int 1]) (rest := []) C w (m_X8_fails sth kth ho5) (cl_8).1 sth kth (by decide) ml_X8_123 iy_X8_fails sy_X8_fails in_X8 cy_X8_fails ⟨rfl, by decide +kernel, by decide +kernel, by decide +kernel⟩ rfl ⟨Nat.le_of_ble_eq_true rfl, Nat.le_of_ble_eq_true rfl⟩ rfl (Nat.le_of_ble_eq_true rfl) hl.1 ⟨Nat.le_of_ble_eq_true rfl, Nat.le_of_ble_eq_true rfl⟩ dX8_statement_62 (fun H locs w => ?_)
          obtain ⟨hb, hf, h⟩ := g_obz h
          exact g_zretB C w hr hb dX8_statement_65 h
        · have h := (if_neg hc).symm.trans h
          refine lv_aload_n C.1 C.2.1 dX8_statement_53 rfl (lv_at hl 0 rfl) ?_
          obtain ⟨o6, ho6, h⟩ := g_bd h
          refine g_callV (n := 0) (As := []) (rest := []) C w (m_X8_playerLine sth kth ho6) (cl_8).1 sth kth (by decide) ml_X8_191 iy_X8_playerLine sy_X8_playerLine in_X8 cy_X8_playerLine ⟨rfl, by decide +kernel, by decide +kernel, by decide +kernel⟩ rfl ⟨Nat.le_of_ble_eq_true rfl, Nat.le_of_ble_eq_true rfl⟩ rfl (Nat.le_of_ble_eq_true rfl) hl.1 ⟨Nat.le_of_ble_eq_true rfl, Nat.le_of_ble_eq_true rfl⟩ dX8_statement_54 (fun H locs w => ?_)
          refine lv_goto (tgt := 65) C.1 C.2.1 dX8_statement_57 (by decide) ?_
          obtain ⟨hb, hf, h⟩ := g_obz h
          exact g_zretB C w hr hb dX8_statement_65 h
      · have h := (if_neg hc).symm.trans h
        refine lv_aload_n C.1 C.2.1 dX8_statement_37 rfl (lv_at hl 0 rfl) ?_
        obtain ⟨o7, ho7, h⟩ := g_bd h
        refine g_callV (n := 0) (As := []) (rest := []) C w (m_X8_joinLine sth kth ho7) (cl_8).1 sth kth (by decide) ml_X8_186 iy_X8_joinLine sy_X8_joinLine in_X8 cy_X8_joinLine ⟨rfl, by decide +kernel, by decide +kernel, by decide +kernel⟩ rfl ⟨Nat.le_of_ble_eq_true rfl, Nat.le_of_ble_eq_true rfl⟩ rfl (Nat.le_of_ble_eq_true rfl) hl.1 ⟨Nat.le_of_ble_eq_true rfl, Nat.le_of_ble_eq_true rfl⟩ dX8_statement_38 (fun H locs w => ?_)
        refine lv_goto (tgt := 65) C.1 C.2.1 dX8_statement_41 (by decide) ?_
        obtain ⟨hb, hf, h⟩ := g_obz h
        exact g_zretB C w hr hb dX8_statement_65 h
    · have h := (if_neg hc).symm.trans h
      refine lv_aload_n C.1 C.2.1 dX8_statement_23 rfl (lv_at hl 0 rfl) ?_
      obtain ⟨o8, ho8, h⟩ := g_bd h
      refine g_callV (n := 0) (As := []) (rest := []) C w (m_X8_varyLine sth kth ho8) (cl_8).1 sth kth (by decide) ml_X8_181 iy_X8_varyLine sy_X8_varyLine in_X8 cy_X8_varyLine ⟨rfl, by decide +kernel, by decide +kernel, by decide +kernel⟩ rfl ⟨Nat.le_of_ble_eq_true rfl, Nat.le_of_ble_eq_true rfl⟩ rfl (Nat.le_of_ble_eq_true rfl) hl.1 ⟨Nat.le_of_ble_eq_true rfl, Nat.le_of_ble_eq_true rfl⟩ dX8_statement_24 (fun H locs w => ?_)
      obtain ⟨hb, hf, h⟩ := g_obz h
      exact g_zretB C w hr hb dX8_statement_27 h
  · have h := (if_neg hc).symm.trans h
    refine lv_aload_n C.1 C.2.1 dX8_statement_9 rfl (lv_at hl 0 rfl) ?_
    obtain ⟨o9, ho9, h⟩ := g_bd h
    refine g_callV (n := 0) (As := []) (rest := []) C w (m_X8_linkLine sth kth ho9) (cl_8).1 sth kth (by decide) ml_X8_175 iy_X8_linkLine sy_X8_linkLine in_X8 cy_X8_linkLine ⟨rfl, by decide +kernel, by decide +kernel, by decide +kernel⟩ rfl ⟨Nat.le_of_ble_eq_true rfl, Nat.le_of_ble_eq_true rfl⟩ rfl (Nat.le_of_ble_eq_true rfl) hl.1 ⟨Nat.le_of_ble_eq_true rfl, Nat.le_of_ble_eq_true rfl⟩ dX8_statement_10 (fun H locs w => ?_)
    obtain ⟨hb, hf, h⟩ := g_obz h
    exact g_zretB C w hr hb dX8_statement_13 h

set_option maxHeartbeats 4000000 in
set_option maxRecDepth 100000 in
theorem m_X8_clearsRead {l : Launch} {D : va_G} {cA : Nat → ClassId} {B : Nat} {S : Nat → Prop} {σ : GS} {th : Nat} {o : GS} (sth : S th) (kth : kdG th = 8) (h0 : F_X8_clearsRead σ th = some o) : MF l yX8_clearsRead cX8_clearsRead 2 none 0 0 D cA B S [.ref (B + th)] σ o none := by
  refine MF.of (by decide +kernel) (Nat.le_of_ble_eq_true rfl) ?_
  intro p e s m args below meth c C hr w ls hl
  have hl : lv_has ls 2 [(0, .ref (B + th))] := hl
  have B_2 : ∀ (n2 : Nat) (σ : GS) (v1 : Int32) (H : Heap) (locs : List Loc) (ls : Array Slot), L_X8_clearsRead_2 th n2 σ v1 = some o → WS D cA B S σ s H locs → lv_has ls 2 [(0, .ref (B + th)), (1, .int v1)] → W p l e (rmF 0 0) s m args below meth c H locs 0 0 (MQ below (QF D cA B S o none) args s 0 0 (AB B S)) (F0 m 2 ls []) := by
    intro n2
    induction n2 with
    | zero => intro σ v1 H locs ls h; exact nomatch (show (none : Option (GS)) = some o from h)
    | succ n2 ih2 =>
      intro σ v1 H locs ls h  w hl
      unfold L_X8_clearsRead_2 at h
      refine lv_iload_n C.1 C.2.1 dX8_clearsRead_2 rfl (lv_at hl 1 rfl) ?_
      refine lv_bipush (v := 47) C.1 C.2.1 dX8_clearsRead_3 (by decide) ?_
      refine lv_icmp_ge (tgt := 21) C.1 C.2.1 dX8_clearsRead_5 (by decide) (fun hc => ?_) (fun hc => ?_)
      · have h := (if_pos hc).symm.trans h
        refine lv_aload_n C.1 C.2.1 dX8_clearsRead_21 rfl (lv_at hl 0 rfl) ?_
        refine lv_iconst (v := 0) C.1 C.2.1 dX8_clearsRead_22 (by decide) ?_
        refine g_putI C w fw_X8_155 sth kth (by decide) (fun _ _ _ => rfl) rfl rfl dX8_clearsRead_23 (fun H locs w => ?_)
        refine lv_aload_n C.1 C.2.1 dX8_clearsRead_26 rfl (lv_at hl 0 rfl) ?_
        refine lv_iconst (v := 0) C.1 C.2.1 dX8_clearsRead_27 (by decide) ?_
        refine g_putI C w fw_X8_147 sth kth (by decide) (fun _ _ _ => rfl) (by decide) rfl dX8_clearsRead_28 (fun H locs w => ?_)
        exact g_vretV C w hr dX8_clearsRead_31 h
      · have h := (if_neg hc).symm.trans h
        refine lv_aload_n C.1 C.2.1 dX8_clearsRead_8 rfl (lv_at hl 0 rfl) ?_
        refine g_getR C w fl_X8_28 sth kth (by decide) kt_8_17 (fun _ _ _ => rfl) dX8_clearsRead_9 (fun s3 k3 => ?_)
        refine lv_iload_n C.1 C.2.1 dX8_clearsRead_12 rfl (lv_at hl 1 rfl) ?_
        refine lv_iconst (v := 0) C.1 C.2.1 dX8_clearsRead_13 (by decide) ?_
        obtain ⟨hb, h⟩ := g_ob h
        refine g_iast C w s3 k3 hb dX8_clearsRead_14 (fun H locs w => ?_)
        refine lv_iinc (k := 1) (v := v1 + 1) (lv' := [(1, .int (v1 + 1)), (0, .ref (B + th))]) C.1 C.2.1 dX8_clearsRead_15 hl rfl rfl (by decide) rfl (fun ls hl => ?_)
        refine lv_goto (tgt := 2) C.1 C.2.1 dX8_clearsRead_18 (by decide) ?_
        exact ih2 _ _ _ _ _ h w (show lv_has ls 2 [(0, .ref (B + th)), (1, .int (v1 + 1))] from lv_sub hl [1, 0] rfl)
  have h := h0
  unfold F_X8_clearsRead at h
  refine lv_iconst (v := 0) C.1 C.2.1 dX8_clearsRead_0 (by decide) ?_
  refine lv_istore_n (lv' := [(1, .int 0), (0, .ref (B + th))]) C.1 C.2.1 dX8_clearsRead_1 rfl hl (by decide) rfl (fun ls hl => ?_)
  exact B_2 _ _ _ _ _ _ h w (show lv_has ls 2 [(0, .ref (B + th)), (1, .int 0)] from lv_sub hl [1, 0] rfl)

set_option maxHeartbeats 4000000 in
set_option maxRecDepth 100000 in
theorem m_X8_errorPosition {l : Launch} {D : va_G} {cA : Nat → ClassId} {B : Nat} {S : Nat → Prop} {σ : GS} {th : Nat} {o : GS × Int32} (sth : S th) (kth : kdG th = 8) (h0 : F_X8_errorPosition σ th = some o) : MF l yX8_errorPosition cX8_errorPosition 1 (some .int) 0 0 D cA B S [.ref (B + th)] σ o.1 (some (.int o.2)) := by
  refine MF.of (by decide +kernel) (Nat.le_of_ble_eq_true rfl) ?_
  intro p e s m args below meth c C hr w ls hl
  have hl : lv_has ls 1 [(0, .ref (B + th))] := hl
  have h := h0
  unfold F_X8_errorPosition at h
  refine lv_aload_n C.1 C.2.1 dX8_errorPosition_0 rfl (lv_at hl 0 rfl) ?_
  refine lv_iconst (v := 0) C.1 C.2.1 dX8_errorPosition_1 (by decide) ?_
  refine g_putI C w fw_X8_71 sth kth (by decide) (fun _ _ _ => rfl) rfl rfl dX8_errorPosition_2 (fun H locs w => ?_)
  refine lv_aload_n C.1 C.2.1 dX8_errorPosition_5 rfl (lv_at hl 0 rfl) ?_
  refine g_getI C w fl_X8_24 sth kth (by decide) (fun _ _ _ => rfl) dX8_errorPosition_6 ?_
  exact g_iretB C w hr dX8_errorPosition_9 h

set_option maxHeartbeats 4000000 in
set_option maxRecDepth 100000 in
theorem m_X8_find {l : Launch} {D : va_G} {cA : Nat → ClassId} {B : Nat} {S : Nat → Prop} {σ : GS} {th : Nat} {o : GS × Int32} (sth : S th) (kth : kdG th = 8) (h0 : F_X8_find σ th = some o) : MF l yX8_find cX8_find 2 (some .int) 2 42 D cA B S [.ref (B + th)] σ o.1 (some (.int o.2)) := by
  refine MF.of (by decide +kernel) (Nat.le_of_ble_eq_true rfl) ?_
  intro p e s m args below meth c C hr w ls hl
  have hl : lv_has ls 2 [(0, .ref (B + th))] := hl
  have B_37 : ∀ (n37 : Nat) (σ : GS) (v1 : Int32) (H : Heap) (locs : List Loc) (ls : Array Slot), L_X8_find_37 th n37 σ v1 = some o → WS D cA B S σ s H locs → lv_has ls 2 [(0, .ref (B + th)), (1, .int v1)] → W p l e (rmF 2 42) s m args below meth c H locs 0 0 (MQ below (QF D cA B S o.1 (some (.int o.2))) args s 0 0 (AB B S)) (F0 m 37 ls []) := by
    intro n37
    induction n37 with
    | zero => intro σ v1 H locs ls h; exact nomatch (show (none : Option (GS × Int32)) = some o from h)
    | succ n37 ih37 =>
      intro σ v1 H locs ls h  w hl
      unfold L_X8_find_37 at h
      refine lv_aload_n C.1 C.2.1 dX8_find_37 rfl (lv_at hl 0 rfl) ?_
      refine lv_aload_n C.1 C.2.1 dX8_find_38 rfl (lv_at hl 0 rfl) ?_
      refine g_getI C w fl_X8_88 sth kth (by decide) (fun _ _ _ => rfl) dX8_find_39 ?_
      obtain ⟨o7, ho7, h⟩ := g_bd h
      refine g_callV (n := 1) (As := [.int (gI σ th 8)]) (rest := []) C w (m_X8_byteAt sth kth ho7) (cl_8).1 sth kth (by decide) ml_X8_91 iy_X8_byteAt sy_X8_byteAt in_X8 cy_X8_byteAt ⟨rfl, by decide +kernel, by decide +kernel, by decide +kernel⟩ rfl ⟨Nat.le_of_ble_eq_true rfl, Nat.le_of_ble_eq_true rfl⟩ rfl (Nat.le_of_ble_eq_true rfl) hl.1 ⟨Nat.le_of_ble_eq_true rfl, Nat.le_of_ble_eq_true rfl⟩ dX8_find_42 (fun H locs w => ?_)
      refine lv_bipush (v := 32) C.1 C.2.1 dX8_find_45 (by decide) ?_
      refine lv_icmp_ne (tgt := 63) C.1 C.2.1 dX8_find_47 (by decide) (fun hc => ?_) (fun hc => ?_)
      · have h := (if_neg hc).symm.trans h
        refine lv_iload_n C.1 C.2.1 dX8_find_63 rfl (lv_at hl 1 rfl) ?_
        refine lv_if_eq (tgt := 84) C.1 C.2.1 dX8_find_64 (by decide) (fun hc => ?_) (fun hc => ?_)
        · have h := (if_pos hc).symm.trans h
          refine lv_iconst (v := (-1)) C.1 C.2.1 dX8_find_84 (by decide) ?_
          refine lv_goto (tgt := 105) C.1 C.2.1 dX8_find_85 (by decide) ?_
          exact g_iretB C w hr dX8_find_105 h
        · have h := (if_neg hc).symm.trans h
          refine lv_iload_n C.1 C.2.1 dX8_find_67 rfl (lv_at hl 1 rfl) ?_
          refine lv_bipush (v := 8) C.1 C.2.1 dX8_find_68 (by decide) ?_
          refine lv_icmp_gt (tgt := 84) C.1 C.2.1 dX8_find_70 (by decide) (fun hc => ?_) (fun hc => ?_)
          · have h := (if_pos hc).symm.trans h
            refine lv_iconst (v := (-1)) C.1 C.2.1 dX8_find_84 (by decide) ?_
            refine lv_goto (tgt := 105) C.1 C.2.1 dX8_find_85 (by decide) ?_
            exact g_iretB C w hr dX8_find_105 h
          · have h := (if_neg hc).symm.trans h
            refine lv_aload_n C.1 C.2.1 dX8_find_73 rfl (lv_at hl 0 rfl) ?_
            refine g_getI C w fl_X8_88 sth kth (by decide) (fun _ _ _ => rfl) dX8_find_74 ?_
            refine lv_aload_n C.1 C.2.1 dX8_find_77 rfl (lv_at hl 0 rfl) ?_
            refine g_getI C w fl_X8_81 sth kth (by decide) (fun _ _ _ => rfl) dX8_find_78 ?_
            refine lv_icmp_ge (tgt := 88) C.1 C.2.1 dX8_find_81 (by decide) (fun hc => ?_) (fun hc => ?_)
            · have h := (if_pos hc).symm.trans h
              refine lv_aload_n C.1 C.2.1 dX8_find_88 rfl (lv_at hl 0 rfl) ?_
              refine g_getR C w fl_X8_13 sth kth (by decide) kt_8_2 (fun _ _ _ => rfl) dX8_find_89 (fun s8 k8 => ?_)
              refine lv_aload_n C.1 C.2.1 dX8_find_92 rfl (lv_at hl 0 rfl) ?_
              refine g_getR C w fl_X8_7 sth kth (by decide) kt_8_1 (fun _ _ _ => rfl) dX8_find_93 (fun s9 k9 => ?_)
              refine lv_iconst (v := 4) C.1 C.2.1 dX8_find_96 (by decide) ?_
              obtain ⟨hb, h⟩ := g_ob h
              refine g_iald C w s9 k9 hb dX8_find_97 ?_
              refine lv_aload_n C.1 C.2.1 dX8_find_98 rfl (lv_at hl 0 rfl) ?_
              refine g_getL C w fl_X8_84 sth kth (by decide) (fun _ _ _ => rfl) dX8_find_99 ?_
              obtain ⟨o10, ho10, h⟩ := g_bd h
              refine g_callS (n := 3) (As := [.ref (B + (rfG th 2)), .int (gI σ (rfG th 1) (4 : Int32).toNatClampNeg), .long (gL σ th 11)]) (rest := []) C w (m_X8_named s8 k8 ho10) ml_X8_151 iy_X8_named in_X8 cy_X8_named ⟨by decide +kernel, by decide +kernel, by decide +kernel⟩ rfl ⟨Nat.le_of_ble_eq_true rfl, Nat.le_of_ble_eq_true rfl⟩ rfl (Nat.le_of_ble_eq_true rfl) hl.1 ⟨Nat.le_of_ble_eq_true rfl, Nat.le_of_ble_eq_true rfl⟩ dX8_find_102 (fun H locs w => ?_)
              exact g_iretB C w hr dX8_find_105 h
            · have h := (if_neg hc).symm.trans h
              refine lv_iconst (v := (-1)) C.1 C.2.1 dX8_find_84 (by decide) ?_
              refine lv_goto (tgt := 105) C.1 C.2.1 dX8_find_85 (by decide) ?_
              exact g_iretB C w hr dX8_find_105 h
      · have h := (if_pos hc).symm.trans h
        refine lv_aload_n C.1 C.2.1 dX8_find_50 rfl (lv_at hl 0 rfl) ?_
        refine lv_dup C.1 C.2.1 dX8_find_51 rfl ?_
        refine g_getI C w fl_X8_88 sth kth (by decide) (fun _ _ _ => rfl) dX8_find_52 ?_
        refine lv_iconst (v := 1) C.1 C.2.1 dX8_find_55 (by decide) ?_
        refine lv_iadd C.1 C.2.1 dX8_find_56 ?_
        refine g_putI C w fw_X8_88 sth kth (by decide) (fun _ _ _ => rfl) rfl rfl dX8_find_57 (fun H locs w => ?_)
        refine lv_goto (tgt := 37) C.1 C.2.1 dX8_find_60 (by decide) ?_
        exact ih37 _ _ _ _ _ h w (show lv_has ls 2 [(0, .ref (B + th)), (1, .int v1)] from lv_sub hl [0, 1] rfl)
  have h := h0
  unfold F_X8_find at h
  refine lv_aload_n C.1 C.2.1 dX8_find_0 rfl (lv_at hl 0 rfl) ?_
  refine lv_iconst (v := 0) C.1 C.2.1 dX8_find_1 (by decide) ?_
  refine g_putI C w fw_X8_71 sth kth (by decide) (fun _ _ _ => rfl) rfl rfl dX8_find_2 (fun H locs w => ?_)
  refine lv_aload_n C.1 C.2.1 dX8_find_5 rfl (lv_at hl 0 rfl) ?_
  refine lv_aload_n C.1 C.2.1 dX8_find_6 rfl (lv_at hl 0 rfl) ?_
  refine g_getI C w fl_X8_74 sth kth (by decide) (fun _ _ _ => rfl) dX8_find_7 ?_
  refine g_putI C w fw_X8_81 sth kth (by decide) (fun _ _ _ => rfl) rfl rfl dX8_find_10 (fun H locs w => ?_)
  refine lv_aload_n C.1 C.2.1 dX8_find_13 rfl (lv_at hl 0 rfl) ?_
  refine lv_iconst (v := 0) C.1 C.2.1 dX8_find_14 (by decide) ?_
  refine g_putI C w fw_X8_74 sth kth (by decide) (fun _ _ _ => rfl) rfl rfl dX8_find_15 (fun H locs w => ?_)
  refine lv_aload_n C.1 C.2.1 dX8_find_18 rfl (lv_at hl 0 rfl) ?_
  refine lv_iconst (v := 0) C.1 C.2.1 dX8_find_19 (by decide) ?_
  refine g_putI C w fw_X8_99 sth kth (by decide) (fun _ _ _ => rfl) rfl rfl dX8_find_20 (fun H locs w => ?_)
  refine lv_aload_n C.1 C.2.1 dX8_find_23 rfl (lv_at hl 0 rfl) ?_
  refine lv_iconst (v := 0) C.1 C.2.1 dX8_find_24 (by decide) ?_
  refine g_putI C w fw_X8_88 sth kth (by decide) (fun _ _ _ => rfl) rfl rfl dX8_find_25 (fun H locs w => ?_)
  refine lv_aload_n C.1 C.2.1 dX8_find_28 rfl (lv_at hl 0 rfl) ?_
  obtain ⟨o6, ho6, h⟩ := g_bd h
  refine g_callV (n := 0) (As := []) (rest := []) C w (m_X8_takesLetters sth kth ho6) (cl_8).1 sth kth (by decide) ml_X8_108 iy_X8_takesLetters sy_X8_takesLetters in_X8 cy_X8_takesLetters ⟨rfl, by decide +kernel, by decide +kernel, by decide +kernel⟩ rfl ⟨Nat.le_of_ble_eq_true rfl, Nat.le_of_ble_eq_true rfl⟩ rfl (Nat.le_of_ble_eq_true rfl) hl.1 ⟨Nat.le_of_ble_eq_true rfl, Nat.le_of_ble_eq_true rfl⟩ dX8_find_29 (fun H locs w => ?_)
  refine lv_aload_n C.1 C.2.1 dX8_find_32 rfl (lv_at hl 0 rfl) ?_
  refine g_getI C w fl_X8_88 sth kth (by decide) (fun _ _ _ => rfl) dX8_find_33 ?_
  refine lv_istore_n (lv' := [(1, .int (gI o6 th 8)), (0, .ref (B + th))]) C.1 C.2.1 dX8_find_36 rfl hl (by decide) rfl (fun ls hl => ?_)
  exact B_37 _ _ _ _ _ _ h w (show lv_has ls 2 [(0, .ref (B + th)), (1, .int (gI o6 th 8))] from lv_sub hl [1, 0] rfl)

set_option maxHeartbeats 4000000 in
set_option maxRecDepth 100000 in
theorem m_X8_toldOf {l : Launch} {D : va_G} {cA : Nat → ClassId} {B : Nat} {S : Nat → Prop} {σ : GS} {th : Nat} {a1 : Int32} {a2 : Int32} {o : Int32} (sth : S th) (kth : kdG th = 8) (h0 : F_X8_toldOf σ th a1 a2 = some o) : MF l yX8_toldOf cX8_toldOf 3 (some .int) 0 0 D cA B S [.ref (B + th), .int a1, .int a2] σ σ (some (.int o)) := by
  refine MF.of (by decide +kernel) (Nat.le_of_ble_eq_true rfl) ?_
  intro p e s m args below meth c C hr w ls hl
  have hl : lv_has ls 3 [(0, .ref (B + th)), (1, .int a1), (2, .int a2)] := hl
  have h := h0
  unfold F_X8_toldOf at h
  refine lv_aload_n C.1 C.2.1 dX8_toldOf_0 rfl (lv_at hl 0 rfl) ?_
  refine g_getR C w fl_X8_7 sth kth (by decide) kt_8_1 (fun _ _ _ => rfl) dX8_toldOf_1 (fun s1 k1 => ?_)
  refine lv_bipush (v := 19) C.1 C.2.1 dX8_toldOf_4 (by decide) ?_
  refine lv_bipush (v := 7) C.1 C.2.1 dX8_toldOf_6 (by decide) ?_
  refine lv_iload_n C.1 C.2.1 dX8_toldOf_8 rfl (lv_at hl 1 rfl) ?_
  refine lv_imul C.1 C.2.1 dX8_toldOf_9 ?_
  refine lv_iadd C.1 C.2.1 dX8_toldOf_10 ?_
  refine lv_iload_n C.1 C.2.1 dX8_toldOf_11 rfl (lv_at hl 2 rfl) ?_
  refine lv_iadd C.1 C.2.1 dX8_toldOf_12 ?_
  obtain ⟨hb, h⟩ := g_ob h
  refine g_iald C w s1 k1 hb dX8_toldOf_13 ?_
  exact g_iretP C w hr dX8_toldOf_14 h

set_option maxHeartbeats 4000000 in
set_option maxRecDepth 100000 in
theorem m_X8_of {l : Launch} {D : va_G} {cA : Nat → ClassId} {B : Nat} {S : Nat → Prop} {σ : GS} {th : Nat} {a1 : Int32} {a2 : Int32} {o : Int32} (sth : S th) (kth : kdG th = 8) (h0 : F_X8_of σ th a1 a2 = some o) : MF l yX8_of cX8_of 3 (some .int) 0 0 D cA B S [.ref (B + th), .int a1, .int a2] σ σ (some (.int o)) := by
  refine MF.of (by decide +kernel) (Nat.le_of_ble_eq_true rfl) ?_
  intro p e s m args below meth c C hr w ls hl
  have hl : lv_has ls 3 [(0, .ref (B + th)), (1, .int a1), (2, .int a2)] := hl
  have h := h0
  unfold F_X8_of at h
  refine lv_aload_n C.1 C.2.1 dX8_of_0 rfl (lv_at hl 0 rfl) ?_
  refine g_getR C w fl_X8_17 sth kth (by decide) kt_8_3 (fun _ _ _ => rfl) dX8_of_1 (fun s1 k1 => ?_)
  refine lv_bipush (v := 13) C.1 C.2.1 dX8_of_4 (by decide) ?_
  refine lv_bipush (v := 106) C.1 C.2.1 dX8_of_6 (by decide) ?_
  refine lv_iload_n C.1 C.2.1 dX8_of_8 rfl (lv_at hl 1 rfl) ?_
  refine lv_imul C.1 C.2.1 dX8_of_9 ?_
  refine lv_iadd C.1 C.2.1 dX8_of_10 ?_
  refine lv_iload_n C.1 C.2.1 dX8_of_11 rfl (lv_at hl 2 rfl) ?_
  refine lv_iadd C.1 C.2.1 dX8_of_12 ?_
  obtain ⟨hb, h⟩ := g_ob h
  refine g_iald C w s1 k1 hb dX8_of_13 ?_
  exact g_iretP C w hr dX8_of_14 h

set_option maxHeartbeats 4000000 in
set_option maxRecDepth 100000 in
theorem m_X8_sets {l : Launch} {D : va_G} {cA : Nat → ClassId} {B : Nat} {S : Nat → Prop} {σ : GS} {th : Nat} {a1 : Int32} {a2 : Int32} {a3 : Int32} {o : GS} (sth : S th) (kth : kdG th = 8) (h0 : F_X8_sets σ th a1 a2 a3 = some o) : MF l yX8_sets cX8_sets 4 none 0 0 D cA B S [.ref (B + th), .int a1, .int a2, .int a3] σ o none := by
  refine MF.of (by decide +kernel) (Nat.le_of_ble_eq_true rfl) ?_
  intro p e s m args below meth c C hr w ls hl
  have hl : lv_has ls 4 [(0, .ref (B + th)), (1, .int a1), (2, .int a2), (3, .int a3)] := hl
  have h := h0
  unfold F_X8_sets at h
  refine lv_aload_n C.1 C.2.1 dX8_sets_0 rfl (lv_at hl 0 rfl) ?_
  refine g_getR C w fl_X8_17 sth kth (by decide) kt_8_3 (fun _ _ _ => rfl) dX8_sets_1 (fun s1 k1 => ?_)
  refine lv_bipush (v := 13) C.1 C.2.1 dX8_sets_4 (by decide) ?_
  refine lv_bipush (v := 106) C.1 C.2.1 dX8_sets_6 (by decide) ?_
  refine lv_iload_n C.1 C.2.1 dX8_sets_8 rfl (lv_at hl 1 rfl) ?_
  refine lv_imul C.1 C.2.1 dX8_sets_9 ?_
  refine lv_iadd C.1 C.2.1 dX8_sets_10 ?_
  refine lv_iload_n C.1 C.2.1 dX8_sets_11 rfl (lv_at hl 2 rfl) ?_
  refine lv_iadd C.1 C.2.1 dX8_sets_12 ?_
  refine lv_iload_n C.1 C.2.1 dX8_sets_13 rfl (lv_at hl 3 rfl) ?_
  obtain ⟨hb, h⟩ := g_ob h
  refine g_iast C w s1 k1 hb dX8_sets_14 (fun H locs w => ?_)
  exact g_vretV C w hr dX8_sets_15 h

set_option maxHeartbeats 4000000 in
set_option maxRecDepth 100000 in
theorem m_X8_adds {l : Launch} {D : va_G} {cA : Nat → ClassId} {B : Nat} {S : Nat → Prop} {σ : GS} {th : Nat} {a1 : Int32} {a2 : Int32} {a3 : Int32} {o : GS} (sth : S th) (kth : kdG th = 8) (h0 : F_X8_adds σ th a1 a2 a3 = some o) : MF l yX8_adds cX8_adds 4 none 0 0 D cA B S [.ref (B + th), .int a1, .int a2, .int a3] σ o none := by
  refine MF.of (by decide +kernel) (Nat.le_of_ble_eq_true rfl) ?_
  intro p e s m args below meth c C hr w ls hl
  have hl : lv_has ls 4 [(0, .ref (B + th)), (1, .int a1), (2, .int a2), (3, .int a3)] := hl
  have h := h0
  unfold F_X8_adds at h
  refine lv_aload_n C.1 C.2.1 dX8_adds_0 rfl (lv_at hl 0 rfl) ?_
  refine g_getR C w fl_X8_17 sth kth (by decide) kt_8_3 (fun _ _ _ => rfl) dX8_adds_1 (fun s1 k1 => ?_)
  refine lv_bipush (v := 13) C.1 C.2.1 dX8_adds_4 (by decide) ?_
  refine lv_bipush (v := 106) C.1 C.2.1 dX8_adds_6 (by decide) ?_
  refine lv_iload_n C.1 C.2.1 dX8_adds_8 rfl (lv_at hl 1 rfl) ?_
  refine lv_imul C.1 C.2.1 dX8_adds_9 ?_
  refine lv_iadd C.1 C.2.1 dX8_adds_10 ?_
  refine lv_iload_n C.1 C.2.1 dX8_adds_11 rfl (lv_at hl 2 rfl) ?_
  refine lv_iadd C.1 C.2.1 dX8_adds_12 ?_
  refine lv_dup2_11 C.1 C.2.1 dX8_adds_13 rfl rfl ?_
  obtain ⟨hb, h⟩ := g_ob h
  refine g_iald C w s1 k1 hb dX8_adds_14 ?_
  refine lv_iload_n C.1 C.2.1 dX8_adds_15 rfl (lv_at hl 3 rfl) ?_
  refine lv_iadd C.1 C.2.1 dX8_adds_16 ?_
  obtain ⟨hb, h⟩ := g_ob h
  refine g_iast C w s1 k1 hb dX8_adds_17 (fun H locs w => ?_)
  exact g_vretV C w hr dX8_adds_18 h

set_option maxHeartbeats 4000000 in
set_option maxRecDepth 100000 in
theorem m_X8_rateAt {l : Launch} {D : va_G} {cA : Nat → ClassId} {B : Nat} {S : Nat → Prop} {σ : GS} {th : Nat} {a1 : Int32} {o : Int32} (sth : S th) (kth : kdG th = 8) (h0 : F_X8_rateAt σ th a1 = some o) : MF l yX8_rateAt cX8_rateAt 5 (some .int) 0 0 D cA B S [.ref (B + th), .int a1] σ σ (some (.int o)) := by
  refine MF.of (by decide +kernel) (Nat.le_of_ble_eq_true rfl) ?_
  intro p e s m args below meth c C hr w ls hl
  have hl : lv_has ls 5 [(0, .ref (B + th)), (1, .int a1)] := hl
  have B_59 : ∀ (n59 : Nat) (v3 : Int32) (v4 : Int32) (H : Heap) (locs : List Loc) (ls : Array Slot), L_X8_rateAt_59 th a1 n59 σ v3 v4 = some o → WS D cA B S σ s H locs → lv_has ls 5 [(0, .ref (B + th)), (3, .int v3), (4, .int v4)] → W p l e (rmF 0 0) s m args below meth c H locs 0 0 (MQ below (QF D cA B S σ (some (.int o))) args s 0 0 (AB B S)) (F0 m 59 ls []) := by
    intro n59
    induction n59 with
    | zero => intro  v3 v4 H locs ls h; exact nomatch (show (none : Option (Int32)) = some o from h)
    | succ n59 ih59 =>
      intro  v3 v4 H locs ls h  w hl
      unfold L_X8_rateAt_59 at h
      refine lv_iload_n C.1 C.2.1 dX8_rateAt_59 rfl (lv_at hl 1 rfl) ?_
      refine lv_aload_n C.1 C.2.1 dX8_rateAt_60 rfl (lv_at hl 0 rfl) ?_
      refine g_getR C w fl_X8_7 sth kth (by decide) kt_8_1 (fun _ _ _ => rfl) dX8_rateAt_61 (fun s3 k3 => ?_)
      refine lv_bipush (v := 7) C.1 C.2.1 dX8_rateAt_64 (by decide) ?_
      refine lv_iload C.1 C.2.1 dX8_rateAt_66 (lv_at hl 2 rfl) ?_
      refine lv_iadd C.1 C.2.1 dX8_rateAt_68 ?_
      obtain ⟨hb, h⟩ := g_ob h
      refine g_iald C w s3 k3 hb dX8_rateAt_69 ?_
      refine lv_icmp_lt (tgt := 92) C.1 C.2.1 dX8_rateAt_70 (by decide) (fun hc => ?_) (fun hc => ?_)
      · have h := (if_pos hc).symm.trans h
        refine lv_aload_n C.1 C.2.1 dX8_rateAt_92 rfl (lv_at hl 0 rfl) ?_
        refine g_getR C w fl_X8_17 sth kth (by decide) kt_8_3 (fun _ _ _ => rfl) dX8_rateAt_93 (fun s4 k4 => ?_)
        refine lv_iconst (v := 1) C.1 C.2.1 dX8_rateAt_96 (by decide) ?_
        refine lv_iload C.1 C.2.1 dX8_rateAt_97 (lv_at hl 2 rfl) ?_
        refine lv_iadd C.1 C.2.1 dX8_rateAt_99 ?_
        obtain ⟨hb, h⟩ := g_ob h
        refine g_iald C w s4 k4 hb dX8_rateAt_100 ?_
        exact g_iretP C w hr dX8_rateAt_101 h
      · have h := (if_neg hc).symm.trans h
        refine lv_iload_n C.1 C.2.1 dX8_rateAt_73 rfl (lv_at hl 1 rfl) ?_
        refine lv_aload_n C.1 C.2.1 dX8_rateAt_74 rfl (lv_at hl 0 rfl) ?_
        refine g_getR C w fl_X8_7 sth kth (by decide) kt_8_1 (fun _ _ _ => rfl) dX8_rateAt_75 (fun s5 k5 => ?_)
        refine lv_bipush (v := 7) C.1 C.2.1 dX8_rateAt_78 (by decide) ?_
        refine lv_iload C.1 C.2.1 dX8_rateAt_80 (lv_at hl 2 rfl) ?_
        refine lv_iadd C.1 C.2.1 dX8_rateAt_82 ?_
        obtain ⟨hb, h⟩ := g_ob h
        refine g_iald C w s5 k5 hb dX8_rateAt_83 ?_
        refine lv_isub C.1 C.2.1 dX8_rateAt_84 ?_
        refine lv_istore_n (lv' := [(3, .int (v3 - (gI σ (rfG th 1) (7 + v4).toNatClampNeg))), (0, .ref (B + th)), (4, .int v4)]) C.1 C.2.1 dX8_rateAt_85 rfl hl (by decide) rfl (fun ls hl => ?_)
        refine lv_iinc (k := 2) (v := v4 + 1) (lv' := [(4, .int (v4 + 1)), (3, .int (v3 - (gI σ (rfG th 1) (7 + v4).toNatClampNeg))), (0, .ref (B + th))]) C.1 C.2.1 dX8_rateAt_86 hl rfl rfl (by decide) rfl (fun ls hl => ?_)
        refine lv_goto (tgt := 59) C.1 C.2.1 dX8_rateAt_89 (by decide) ?_
        exact ih59 _ _ _ _ _ h w (show lv_has ls 5 [(0, .ref (B + th)), (3, .int (v3 - (gI σ (rfG th 1) (7 + v4).toNatClampNeg))), (4, .int (v4 + 1))] from lv_sub hl [2, 1, 0] rfl)
  have B_17 : ∀ (n17 : Nat) (v2 : Int32) (v3 : Int32) (H : Heap) (locs : List Loc) (ls : Array Slot), L_X8_rateAt_17 th a1 n17 σ v2 v3 = some o → WS D cA B S σ s H locs → lv_has ls 5 [(0, .ref (B + th)), (1, .int a1), (2, .int v2), (3, .int v3)] → W p l e (rmF 0 0) s m args below meth c H locs 0 0 (MQ below (QF D cA B S σ (some (.int o))) args s 0 0 (AB B S)) (F0 m 17 ls []) := by
    intro n17
    induction n17 with
    | zero => intro  v2 v3 H locs ls h; exact nomatch (show (none : Option (Int32)) = some o from h)
    | succ n17 ih17 =>
      intro  v2 v3 H locs ls h  w hl
      unfold L_X8_rateAt_17 at h
      refine lv_iload_n C.1 C.2.1 dX8_rateAt_17 rfl (lv_at hl 3 rfl) ?_
      refine lv_aload_n C.1 C.2.1 dX8_rateAt_18 rfl (lv_at hl 0 rfl) ?_
      refine g_getR C w fl_X8_7 sth kth (by decide) kt_8_1 (fun _ _ _ => rfl) dX8_rateAt_19 (fun s1 k1 => ?_)
      refine lv_iconst (v := 5) C.1 C.2.1 dX8_rateAt_22 (by decide) ?_
      obtain ⟨hb, h⟩ := g_ob h
      refine g_iald C w s1 k1 hb dX8_rateAt_23 ?_
      refine lv_icmp_ge (tgt := 45) C.1 C.2.1 dX8_rateAt_24 (by decide) (fun hc => ?_) (fun hc => ?_)
      · have h := (if_pos hc).symm.trans h
        refine lv_iload_n C.1 C.2.1 dX8_rateAt_45 rfl (lv_at hl 2 rfl) ?_
        refine lv_if_ne (tgt := 52) C.1 C.2.1 dX8_rateAt_46 (by decide) (fun hc => ?_) (fun hc => ?_)
        · have h := (if_neg hc).symm.trans h
          refine lv_iload_n C.1 C.2.1 dX8_rateAt_52 rfl (lv_at hl 1 rfl) ?_
          refine lv_iload_n C.1 C.2.1 dX8_rateAt_53 rfl (lv_at hl 2 rfl) ?_
          obtain ⟨hb, h⟩ := g_ob h
          refine lv_irem C.1 C.2.1 dX8_rateAt_54 hb ?_
          refine lv_istore_n (lv' := [(3, .int (a1 - a1 / v2 * v2)), (0, .ref (B + th)), (1, .int a1), (2, .int v2)]) C.1 C.2.1 dX8_rateAt_55 rfl hl (by decide) rfl (fun ls hl => ?_)
          refine lv_iconst (v := 0) C.1 C.2.1 dX8_rateAt_56 (by decide) ?_
          refine lv_istore (lv' := [(4, .int 0), (3, .int (a1 - a1 / v2 * v2)), (0, .ref (B + th)), (1, .int a1), (2, .int v2)]) C.1 C.2.1 dX8_rateAt_57 hl (by decide) rfl (fun ls hl => ?_)
          exact B_59 _ _ _ _ _ _ h w (show lv_has ls 5 [(0, .ref (B + th)), (3, .int (a1 - a1 / v2 * v2)), (4, .int 0)] from lv_sub hl [2, 1, 0] rfl)
        · have h := (if_pos hc).symm.trans h
          refine lv_bipush (v := 100) C.1 C.2.1 dX8_rateAt_49 (by decide) ?_
          exact g_iretP C w hr dX8_rateAt_51 h
      · have h := (if_neg hc).symm.trans h
        refine lv_iload_n C.1 C.2.1 dX8_rateAt_27 rfl (lv_at hl 2 rfl) ?_
        refine lv_aload_n C.1 C.2.1 dX8_rateAt_28 rfl (lv_at hl 0 rfl) ?_
        refine g_getR C w fl_X8_7 sth kth (by decide) kt_8_1 (fun _ _ _ => rfl) dX8_rateAt_29 (fun s2 k2 => ?_)
        refine lv_bipush (v := 7) C.1 C.2.1 dX8_rateAt_32 (by decide) ?_
        refine lv_iload_n C.1 C.2.1 dX8_rateAt_34 rfl (lv_at hl 3 rfl) ?_
        refine lv_iadd C.1 C.2.1 dX8_rateAt_35 ?_
        obtain ⟨hb, h⟩ := g_ob h
        refine g_iald C w s2 k2 hb dX8_rateAt_36 ?_
        refine lv_iadd C.1 C.2.1 dX8_rateAt_37 ?_
        refine lv_istore_n (lv' := [(2, .int (v2 + (gI σ (rfG th 1) (7 + v3).toNatClampNeg))), (0, .ref (B + th)), (1, .int a1), (3, .int v3)]) C.1 C.2.1 dX8_rateAt_38 rfl hl (by decide) rfl (fun ls hl => ?_)
        refine lv_iinc (k := 3) (v := v3 + 1) (lv' := [(3, .int (v3 + 1)), (2, .int (v2 + (gI σ (rfG th 1) (7 + v3).toNatClampNeg))), (0, .ref (B + th)), (1, .int a1)]) C.1 C.2.1 dX8_rateAt_39 hl rfl rfl (by decide) rfl (fun ls hl => ?_)
        refine lv_goto (tgt := 17) C.1 C.2.1 dX8_rateAt_42 (by decide) ?_
        exact ih17 _ _ _ _ _ h w (show lv_has ls 5 [(0, .ref (B + th)), (1, .int a1), (2, .int (v2 + (gI σ (rfG th 1) (7 + v3).toNatClampNeg))), (3, .int (v3 + 1))] from lv_sub hl [2, 3, 1, 0] rfl)
  have h := h0
  unfold F_X8_rateAt at h
  refine lv_aload_n C.1 C.2.1 dX8_rateAt_0 rfl (lv_at hl 0 rfl) ?_
  refine g_getI C w fl_X8_43 sth kth (by decide) (fun _ _ _ => rfl) dX8_rateAt_1 ?_
  refine lv_iconst (v := (-1)) C.1 C.2.1 dX8_rateAt_4 (by decide) ?_
  refine lv_icmp_eq (tgt := 13) C.1 C.2.1 dX8_rateAt_5 (by decide) (fun hc => ?_) (fun hc => ?_)
  · have h := (if_pos hc).symm.trans h
    refine lv_iconst (v := 0) C.1 C.2.1 dX8_rateAt_13 (by decide) ?_
    refine lv_istore_n (lv' := [(2, .int 0), (0, .ref (B + th)), (1, .int a1)]) C.1 C.2.1 dX8_rateAt_14 rfl hl (by decide) rfl (fun ls hl => ?_)
    refine lv_iconst (v := 0) C.1 C.2.1 dX8_rateAt_15 (by decide) ?_
    refine lv_istore_n (lv' := [(3, .int 0), (2, .int 0), (0, .ref (B + th)), (1, .int a1)]) C.1 C.2.1 dX8_rateAt_16 rfl hl (by decide) rfl (fun ls hl => ?_)
    exact B_17 _ _ _ _ _ _ h w (show lv_has ls 5 [(0, .ref (B + th)), (1, .int a1), (2, .int 0), (3, .int 0)] from lv_sub hl [2, 3, 1, 0] rfl)
  · have h := (if_neg hc).symm.trans h
    refine lv_aload_n C.1 C.2.1 dX8_rateAt_8 rfl (lv_at hl 0 rfl) ?_
    refine g_getI C w fl_X8_43 sth kth (by decide) (fun _ _ _ => rfl) dX8_rateAt_9 ?_
    exact g_iretP C w hr dX8_rateAt_12 h

