set_option maxHeartbeats 4000000 in
set_option maxRecDepth 100000 in
theorem m_X4_readText {l : Launch} {D : va_G} {cA : Nat → ClassId} {B : BA} {S : Nat → Prop} {σ : GS} {th : Nat} {a1 : Int32} {o : GS × Int32} (sth : S th) (kth : kdG th = 4) (h0 : F_X4_readText σ th a1 = some o) : MF l yX4_readText cX4_readText 3 (some .int) 9 192 D cA B S [.ref (B.1 th), .int a1] σ o.1 (some (.int o.2)) := by
  refine MF.of (by decide +kernel) (Nat.le_of_ble_eq_true rfl) ?_
  intro p e s m args below meth c C hr w ls hl
  have hl : lv_has ls 3 [(0, .ref (B.1 th)), (1, .int a1)] := hl
  have B_69 : ∀ (σ : GS) (H : Heap) (locs : List Loc) (ls : Array Slot), J_X4_readText_69 th a1 σ = some o → WS D cA B S (AB B S) σ s H locs → lv_has ls 3 [(0, .ref (B.1 th))] → W p l e (rmF 9 192) s m args below meth c H locs 0 0 (MQ below (QF D cA B S o.1 (some (.int o.2))) args s 0 0 (AB B S)) (F0 m 69 ls []) := by
    intro σ H locs ls h  w hl
    unfold J_X4_readText_69 at h
    refine lv_aload_n C.1 C.2.1 dX4_readText_69 rfl (lv_at hl 0 rfl) ?_
    refine g_getI C w fl_X4_32 sth kth (by decide) (fun _ _ _ => rfl) dX4_readText_70 ?_
    refine lv_if_ne (tgt := 83) C.1 C.2.1 dX4_readText_73 (by decide) (fun hc => ?_) (fun hc => ?_)
    · have h := (if_neg hc).symm.trans h
      refine lv_aload_n C.1 C.2.1 dX4_readText_83 rfl (lv_at hl 0 rfl) ?_
      refine lv_iconst (v := 0) C.1 C.2.1 dX4_readText_84 (by decide) ?_
      refine g_putI C w fw_X4_26 sth kth (by decide) (fun _ _ _ => rfl) rfl rfl dX4_readText_85 (fun H locs w => ?_)
      refine lv_aload_n C.1 C.2.1 dX4_readText_88 rfl (lv_at hl 0 rfl) ?_
      refine g_getI C w fl_X4_32 sth kth (by decide) (fun _ _ _ => rfl) dX4_readText_89 ?_
      exact g_iretB C w hr dX4_readText_92 h
    · have h := (if_pos hc).symm.trans h
      refine lv_aload_n C.1 C.2.1 dX4_readText_76 rfl (lv_at hl 0 rfl) ?_
      refine g_getR C w fl_X4_12 sth kth (by decide) kt_4_0 (fun _ _ _ => rfl) dX4_readText_77 (fun s11 k11 => ?_)
      obtain ⟨o12, ho12, h⟩ := g_bd h
      refine g_callV (n := 0) (As := []) (rest := []) C w (m_X1_setAllSegments s11 k11 ho12) (cl_1).1 s11 k11 (by decide) ml_X4_53 iy_X1_setAllSegments sy_X1_setAllSegments in_X1 cy_X1_setAllSegments ⟨rfl, by decide +kernel, by decide +kernel, by decide +kernel⟩ rfl ⟨Nat.le_of_ble_eq_true rfl, Nat.le_of_ble_eq_true rfl⟩ rfl (Nat.le_of_ble_eq_true rfl) hl.1 ⟨Nat.le_of_ble_eq_true rfl, Nat.le_of_ble_eq_true rfl⟩ dX4_readText_80 (fun H locs w => ?_)
      refine lv_aload_n C.1 C.2.1 dX4_readText_83 rfl (lv_at hl 0 rfl) ?_
      refine lv_iconst (v := 0) C.1 C.2.1 dX4_readText_84 (by decide) ?_
      refine g_putI C w fw_X4_26 sth kth (by decide) (fun _ _ _ => rfl) rfl rfl dX4_readText_85 (fun H locs w => ?_)
      refine lv_aload_n C.1 C.2.1 dX4_readText_88 rfl (lv_at hl 0 rfl) ?_
      refine g_getI C w fl_X4_32 sth kth (by decide) (fun _ _ _ => rfl) dX4_readText_89 ?_
      exact g_iretB C w hr dX4_readText_92 h
  have B_37 : ∀ (n37 : Nat) (σ : GS) (v2 : Int32) (H : Heap) (locs : List Loc) (ls : Array Slot), L_X4_readText_37 th a1 n37 σ v2 = some o → WS D cA B S (AB B S) σ s H locs → lv_has ls 3 [(0, .ref (B.1 th)), (2, .int v2)] → W p l e (rmF 9 192) s m args below meth c H locs 0 0 (MQ below (QF D cA B S o.1 (some (.int o.2))) args s 0 0 (AB B S)) (F0 m 37 ls []) := by
    intro n37
    induction n37 with
    | zero => intro σ v2 H locs ls h; exact nomatch (show (none : Option (GS × Int32)) = some o from h)
    | succ n37 ih37 =>
      intro σ v2 H locs ls h  w hl
      unfold L_X4_readText_37 at h
      refine lv_iload_n C.1 C.2.1 dX4_readText_37 rfl (lv_at hl 1 rfl) ?_
      refine lv_aload_n C.1 C.2.1 dX4_readText_38 rfl (lv_at hl 0 rfl) ?_
      refine g_getI C w fl_X4_35 sth kth (by decide) (fun _ _ _ => rfl) dX4_readText_39 ?_
      refine lv_icmp_ge (tgt := 69) C.1 C.2.1 dX4_readText_42 (by decide) (fun hc => ?_) (fun hc => ?_)
      · have h := (if_pos hc).symm.trans h
        exact B_69 _ _ _ _ h w (show lv_has ls 3 [(0, .ref (B.1 th))] from lv_sub hl [0] rfl)
      · have h := (if_neg hc).symm.trans h
        refine lv_aload_n C.1 C.2.1 dX4_readText_45 rfl (lv_at hl 0 rfl) ?_
        refine g_getI C w fl_X4_32 sth kth (by decide) (fun _ _ _ => rfl) dX4_readText_46 ?_
        refine lv_if_ne (tgt := 69) C.1 C.2.1 dX4_readText_49 (by decide) (fun hc => ?_) (fun hc => ?_)
        · have h := (if_neg hc).symm.trans h
          exact B_69 _ _ _ _ h w (show lv_has ls 3 [(0, .ref (B.1 th))] from lv_sub hl [0] rfl)
        · have h := (if_pos hc).symm.trans h
          refine lv_aload_n C.1 C.2.1 dX4_readText_52 rfl (lv_at hl 0 rfl) ?_
          refine g_getI C w fl_X4_47 sth kth (by decide) (fun _ _ _ => rfl) dX4_readText_53 ?_
          refine lv_if_eq (tgt := 69) C.1 C.2.1 dX4_readText_56 (by decide) (fun hc => ?_) (fun hc => ?_)
          · have h := (if_pos hc).symm.trans h
            exact B_69 _ _ _ _ h w (show lv_has ls 3 [(0, .ref (B.1 th))] from lv_sub hl [0] rfl)
          · have h := (if_neg hc).symm.trans h
            refine lv_aload_n C.1 C.2.1 dX4_readText_59 rfl (lv_at hl 0 rfl) ?_
            obtain ⟨o9, ho9, h⟩ := g_bd h
            refine g_callV (n := 0) (As := []) (rest := []) C w (m_X4_readStatement sth kth ho9) (cl_4).1 sth kth (by decide) ml_X4_50 iy_X4_readStatement sy_X4_readStatement in_X4 cy_X4_readStatement ⟨rfl, by decide +kernel, by decide +kernel, by decide +kernel⟩ rfl ⟨Nat.le_of_ble_eq_true rfl, Nat.le_of_ble_eq_true rfl⟩ rfl (Nat.le_of_ble_eq_true rfl) hl.1 ⟨Nat.le_of_ble_eq_true rfl, Nat.le_of_ble_eq_true rfl⟩ dX4_readText_60 (fun H locs w => ?_)
            refine lv_iinc (k := 1) (v := v2 + 1) (lv' := [(2, .int (v2 + 1)), (0, .ref (B.1 th))]) C.1 C.2.1 dX4_readText_63 hl rfl rfl (by decide) rfl (fun ls hl => ?_)
            refine lv_goto (tgt := 37) C.1 C.2.1 dX4_readText_66 (by decide) ?_
            exact ih37 _ _ _ _ _ h w (show lv_has ls 3 [(0, .ref (B.1 th)), (2, .int (v2 + 1))] from lv_sub hl [1, 0] rfl)
  have h := h0
  unfold F_X4_readText at h
  refine lv_aload_n C.1 C.2.1 dX4_readText_0 rfl (lv_at hl 0 rfl) ?_
  refine g_getR C w fl_X4_12 sth kth (by decide) kt_4_0 (fun _ _ _ => rfl) dX4_readText_1 (fun s1 k1 => ?_)
  obtain ⟨o2, ho2, h⟩ := g_bd h
  refine g_callV (n := 0) (As := []) (rest := []) C w (m_X1_clear s1 k1 ho2) (cl_1).1 s1 k1 (by decide) ml_X4_29 iy_X1_clear sy_X1_clear in_X1 cy_X1_clear ⟨rfl, by decide +kernel, by decide +kernel, by decide +kernel⟩ rfl ⟨Nat.le_of_ble_eq_true rfl, Nat.le_of_ble_eq_true rfl⟩ rfl (Nat.le_of_ble_eq_true rfl) hl.1 ⟨Nat.le_of_ble_eq_true rfl, Nat.le_of_ble_eq_true rfl⟩ dX4_readText_4 (fun H locs w => ?_)
  refine lv_aload_n C.1 C.2.1 dX4_readText_7 rfl (lv_at hl 0 rfl) ?_
  refine lv_iconst (v := 0) C.1 C.2.1 dX4_readText_8 (by decide) ?_
  refine g_putI C w fw_X4_32 sth kth (by decide) (fun _ _ _ => rfl) rfl rfl dX4_readText_9 (fun H locs w => ?_)
  refine lv_aload_n C.1 C.2.1 dX4_readText_12 rfl (lv_at hl 0 rfl) ?_
  refine lv_iconst (v := (-1)) C.1 C.2.1 dX4_readText_13 (by decide) ?_
  refine g_putI C w fw_X4_22 sth kth (by decide) (fun _ _ _ => rfl) rfl rfl dX4_readText_14 (fun H locs w => ?_)
  refine lv_aload_n C.1 C.2.1 dX4_readText_17 rfl (lv_at hl 0 rfl) ?_
  refine lv_iload_n C.1 C.2.1 dX4_readText_18 rfl (lv_at hl 1 rfl) ?_
  refine g_putI C w fw_X4_35 sth kth (by decide) (fun _ _ _ => rfl) rfl rfl dX4_readText_19 (fun H locs w => ?_)
  refine lv_aload_n C.1 C.2.1 dX4_readText_22 rfl (lv_at hl 0 rfl) ?_
  refine lv_iconst (v := 0) C.1 C.2.1 dX4_readText_23 (by decide) ?_
  refine g_putI C w fw_X4_38 sth kth (by decide) (fun _ _ _ => rfl) rfl rfl dX4_readText_24 (fun H locs w => ?_)
  refine lv_aload_n C.1 C.2.1 dX4_readText_27 rfl (lv_at hl 0 rfl) ?_
  obtain ⟨o7, ho7, h⟩ := g_bd h
  refine g_callV (n := 0) (As := []) (rest := []) C w (m_X4_readToken sth kth ho7) (cl_4).1 sth kth (by decide) ml_X4_41 iy_X4_readToken sy_X4_readToken in_X4 cy_X4_readToken ⟨rfl, by decide +kernel, by decide +kernel, by decide +kernel⟩ rfl ⟨Nat.le_of_ble_eq_true rfl, Nat.le_of_ble_eq_true rfl⟩ rfl (Nat.le_of_ble_eq_true rfl) hl.1 ⟨Nat.le_of_ble_eq_true rfl, Nat.le_of_ble_eq_true rfl⟩ dX4_readText_28 (fun H locs w => ?_)
  refine lv_aload_n C.1 C.2.1 dX4_readText_31 rfl (lv_at hl 0 rfl) ?_
  obtain ⟨o8, ho8, h⟩ := g_bd h
  refine g_callV (n := 0) (As := []) (rest := []) C w (m_X4_readHead sth kth ho8) (cl_4).1 sth kth (by decide) ml_X4_44 iy_X4_readHead sy_X4_readHead in_X4 cy_X4_readHead ⟨rfl, by decide +kernel, by decide +kernel, by decide +kernel⟩ rfl ⟨Nat.le_of_ble_eq_true rfl, Nat.le_of_ble_eq_true rfl⟩ rfl (Nat.le_of_ble_eq_true rfl) hl.1 ⟨Nat.le_of_ble_eq_true rfl, Nat.le_of_ble_eq_true rfl⟩ dX4_readText_32 (fun H locs w => ?_)
  refine lv_iconst (v := 0) C.1 C.2.1 dX4_readText_35 (by decide) ?_
  refine lv_istore_n (lv' := [(2, .int 0), (0, .ref (B.1 th)), (1, .int a1)]) C.1 C.2.1 dX4_readText_36 rfl hl (by decide) rfl (fun ls hl => ?_)
  exact B_37 _ _ _ _ _ _ h w (show lv_has ls 3 [(0, .ref (B.1 th)), (2, .int 0)] from lv_sub hl [1, 0] rfl)

set_option maxHeartbeats 4000000 in
set_option maxRecDepth 100000 in
theorem m_X7_parse {l : Launch} {D : va_G} {cA : Nat → ClassId} {B : BA} {S : Nat → Prop} {σ : GS} {th : Nat} {a1 : Int32} {o : GS × Int32} (sth : S th) (kth : kdG th = 7) (h0 : F_X7_parse σ th a1 = some o) : MF l yX7_parse cX7_parse 4 (some .int) 10 214 D cA B S [.ref (B.1 th), .int a1] σ o.1 (some (.int o.2)) := by
  refine MF.of (by decide +kernel) (Nat.le_of_ble_eq_true rfl) ?_
  intro p e s m args below meth c C hr w ls hl
  have hl : lv_has ls 4 [(0, .ref (B.1 th)), (1, .int a1)] := hl
  have B_66 : ∀ (n66 : Nat) (σ : GS) (v2 : Int32) (v3 : Int32) (H : Heap) (locs : List Loc) (ls : Array Slot), L_X7_parse_66 th a1 n66 σ v2 v3 = some o → WS D cA B S (AB B S) σ s H locs → lv_has ls 4 [(0, .ref (B.1 th)), (2, .int v2), (3, .int v3)] → W p l e (rmF 10 214) s m args below meth c H locs 0 0 (MQ below (QF D cA B S o.1 (some (.int o.2))) args s 0 0 (AB B S)) (F0 m 66 ls []) := by
    intro n66
    induction n66 with
    | zero => intro σ v2 v3 H locs ls h; exact nomatch (show (none : Option (GS × Int32)) = some o from h)
    | succ n66 ih66 =>
      intro σ v2 v3 H locs ls h  w hl
      unfold L_X7_parse_66 at h
      refine lv_iload_n C.1 C.2.1 dX7_parse_66 rfl (lv_at hl 2 rfl) ?_
      refine lv_aload_n C.1 C.2.1 dX7_parse_67 rfl (lv_at hl 0 rfl) ?_
      refine g_getR C w fl_X7_52 sth kth (by decide) kt_7_6 (fun _ _ _ => rfl) dX7_parse_68 (fun s12 k12 => ?_)
      refine g_alen C w s12 k12 (by decide) (by decide) dX7_parse_71 ?_
      refine lv_icmp_ge (tgt := 88) C.1 C.2.1 dX7_parse_72 (by decide) (fun hc => ?_) (fun hc => ?_)
      · have h := (if_pos hc).symm.trans h
        refine lv_iload_n C.1 C.2.1 dX7_parse_88 rfl (lv_at hl 1 rfl) ?_
        exact g_iretB C w hr dX7_parse_89 h
      · have h := (if_neg hc).symm.trans h
        refine lv_aload_n C.1 C.2.1 dX7_parse_75 rfl (lv_at hl 0 rfl) ?_
        refine g_getR C w fl_X7_52 sth kth (by decide) kt_7_6 (fun _ _ _ => rfl) dX7_parse_76 (fun s13 k13 => ?_)
        refine lv_iload_n C.1 C.2.1 dX7_parse_79 rfl (lv_at hl 2 rfl) ?_
        refine lv_iconst (v := 0) C.1 C.2.1 dX7_parse_80 (by decide) ?_
        obtain ⟨hb, h⟩ := g_ob h
        refine g_zast C w s13 k13 hb (by decide) dX7_parse_81 (fun H locs w => ?_)
        refine lv_iinc (k := 2) (v := v3 + 1) (lv' := [(3, .int (v3 + 1)), (0, .ref (B.1 th)), (2, .int v2)]) C.1 C.2.1 dX7_parse_82 hl rfl rfl (by decide) rfl (fun ls hl => ?_)
        refine lv_goto (tgt := 66) C.1 C.2.1 dX7_parse_85 (by decide) ?_
        exact ih66 _ _ _ _ _ _ h w (show lv_has ls 4 [(0, .ref (B.1 th)), (2, .int v2), (3, .int (v3 + 1))] from lv_sub hl [1, 2, 0] rfl)
  have h := h0
  unfold F_X7_parse at h
  refine lv_iload_n C.1 C.2.1 dX7_parse_0 rfl (lv_at hl 1 rfl) ?_
  refine lv_if_lt (tgt := 15) C.1 C.2.1 dX7_parse_1 (by decide) (fun hc => ?_) (fun hc => ?_)
  · have h := (if_pos hc).symm.trans h
    cases h
  · have h := (if_neg hc).symm.trans h
    refine lv_iload_n C.1 C.2.1 dX7_parse_4 rfl (lv_at hl 1 rfl) ?_
    refine lv_aload_n C.1 C.2.1 dX7_parse_5 rfl (lv_at hl 0 rfl) ?_
    refine g_getR C w fl_X7_10 sth kth (by decide) kt_7_0 (fun _ _ _ => rfl) dX7_parse_6 (fun s1 k1 => ?_)
    refine g_getI C w fl_X7_67 s1 k1 (by decide) (fun _ _ _ => rfl) dX7_parse_9 ?_
    refine lv_icmp_le (tgt := 23) C.1 C.2.1 dX7_parse_12 (by decide) (fun hc => ?_) (fun hc => ?_)
    · have h := (if_pos hc).symm.trans h
      refine lv_aload_n C.1 C.2.1 dX7_parse_23 rfl (lv_at hl 0 rfl) ?_
      refine g_getR C w fl_X7_10 sth kth (by decide) kt_7_0 (fun _ _ _ => rfl) dX7_parse_24 (fun s2 k2 => ?_)
      refine lv_iload_n C.1 C.2.1 dX7_parse_27 rfl (lv_at hl 1 rfl) ?_
      obtain ⟨o3, ho3, h⟩ := g_bd h
      refine g_callV (n := 1) (As := [.int a1]) (rest := []) C w (m_X4_readText s2 k2 ho3) (cl_4).1 s2 k2 (by decide) ml_X7_74 iy_X4_readText sy_X4_readText in_X4 cy_X4_readText ⟨rfl, by decide +kernel, by decide +kernel, by decide +kernel⟩ rfl ⟨Nat.le_of_ble_eq_true rfl, Nat.le_of_ble_eq_true rfl⟩ rfl (Nat.le_of_ble_eq_true rfl) hl.1 ⟨Nat.le_of_ble_eq_true rfl, Nat.le_of_ble_eq_true rfl⟩ dX7_parse_28 (fun H locs w => ?_)
      refine lv_istore_n (lv' := [(2, .int o3.2), (0, .ref (B.1 th)), (1, .int a1)]) C.1 C.2.1 dX7_parse_31 rfl hl (by decide) rfl (fun ls hl => ?_)
      refine lv_iload_n C.1 C.2.1 dX7_parse_32 rfl (lv_at hl 0 rfl) ?_
      refine lv_if_ne (tgt := 88) C.1 C.2.1 dX7_parse_33 (by decide) (fun hc => ?_) (fun hc => ?_)
      · have h := (if_neg hc).symm.trans h
        refine lv_iload_n C.1 C.2.1 dX7_parse_88 rfl (lv_at hl 0 rfl) ?_
        exact g_iretB C w hr dX7_parse_89 h
      · have h := (if_pos hc).symm.trans h
        refine lv_aload_n C.1 C.2.1 dX7_parse_36 rfl (lv_at hl 1 rfl) ?_
        refine g_getR C w fl_X7_19 sth kth (by decide) kt_7_1 (fun _ _ _ => rfl) dX7_parse_37 (fun s4 k4 => ?_)
        refine lv_aload_n C.1 C.2.1 dX7_parse_40 rfl (lv_at hl 1 rfl) ?_
        refine g_getR C w fl_X7_10 sth kth (by decide) kt_7_0 (fun _ _ _ => rfl) dX7_parse_41 (fun s5 k5 => ?_)
        refine g_getR C w fl_X7_78 s5 k5 (by decide) kt_4_0 (fun _ _ _ => rfl) dX7_parse_44 (fun s6 k6 => ?_)
        obtain ⟨o7, ho7, h⟩ := g_bd h
        refine g_callV (n := 1) (As := [.ref (B.1 (rfG (rfG th 0) 0))]) (rest := []) C w (m_X1_copyFrom s4 k4 s6 k6 ho7) (cl_1).1 s4 k4 (by decide) ml_X7_81 iy_X1_copyFrom sy_X1_copyFrom in_X1 cy_X1_copyFrom ⟨rfl, by decide +kernel, by decide +kernel, by decide +kernel⟩ rfl ⟨Nat.le_of_ble_eq_true rfl, Nat.le_of_ble_eq_true rfl⟩ rfl (Nat.le_of_ble_eq_true rfl) hl.1 ⟨Nat.le_of_ble_eq_true rfl, Nat.le_of_ble_eq_true rfl⟩ dX7_parse_47 (fun H locs w => ?_)
        refine lv_aload_n C.1 C.2.1 dX7_parse_50 rfl (lv_at hl 1 rfl) ?_
        refine g_getR C w fl_X7_28 sth kth (by decide) kt_7_2 (fun _ _ _ => rfl) dX7_parse_51 (fun s8 k8 => ?_)
        obtain ⟨o9, ho9, h⟩ := g_bd h
        refine g_callV (n := 0) (As := []) (rest := []) C w (m_X5_begin s8 k8 ho9) (cl_5).1 s8 k8 (by decide) ml_X7_56 iy_X5_begin sy_X5_begin in_X5 cy_X5_begin ⟨rfl, by decide +kernel, by decide +kernel, by decide +kernel⟩ rfl ⟨Nat.le_of_ble_eq_true rfl, Nat.le_of_ble_eq_true rfl⟩ rfl (Nat.le_of_ble_eq_true rfl) hl.1 ⟨Nat.le_of_ble_eq_true rfl, Nat.le_of_ble_eq_true rfl⟩ dX7_parse_54 (fun H locs w => ?_)
        refine lv_aload_n C.1 C.2.1 dX7_parse_57 rfl (lv_at hl 1 rfl) ?_
        refine g_getR C w fl_X7_44 sth kth (by decide) kt_7_4 (fun _ _ _ => rfl) dX7_parse_58 (fun s10 k10 => ?_)
        obtain ⟨o11, ho11, h⟩ := g_bd h
        refine g_callV (n := 0) (As := []) (rest := []) C w (m_X0_clear s10 k10 ho11) (cl_0).1 s10 k10 (by decide) ml_X7_84 iy_X0_clear sy_X0_clear in_X0 cy_X0_clear ⟨rfl, by decide +kernel, by decide +kernel, by decide +kernel⟩ rfl ⟨Nat.le_of_ble_eq_true rfl, Nat.le_of_ble_eq_true rfl⟩ rfl (Nat.le_of_ble_eq_true rfl) hl.1 ⟨Nat.le_of_ble_eq_true rfl, Nat.le_of_ble_eq_true rfl⟩ dX7_parse_61 (fun H locs w => ?_)
        refine lv_iconst (v := 0) C.1 C.2.1 dX7_parse_64 (by decide) ?_
        refine lv_istore_n (lv' := [(3, .int 0), (2, .int o3.2), (0, .ref (B.1 th)), (1, .int a1)]) C.1 C.2.1 dX7_parse_65 rfl hl (by decide) rfl (fun ls hl => ?_)
        exact B_66 _ _ _ _ _ _ _ h w (show lv_has ls 4 [(0, .ref (B.1 th)), (2, .int o3.2), (3, .int 0)] from lv_sub hl [2, 1, 0] rfl)
    · have h := (if_neg hc).symm.trans h
      cases h

