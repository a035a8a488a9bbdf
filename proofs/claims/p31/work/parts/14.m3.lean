set_option maxHeartbeats 4000000 in
set_option maxRecDepth 100000 in
theorem m_X6_greatestWithin {l : Launch} {D : va_G} {cA : Nat → ClassId} {B : BA} {S : Nat → Prop} {σ : GS} {th : Nat} {a1 : Int32} {a2 : Int32} {o : Int32} (sth : S th) (kth : kdG th = 6) (h0 : F_X6_greatestWithin σ th a1 a2 = some o) : MF l yX6_greatestWithin cX6_greatestWithin 5 (some .int) 0 0 D cA B S [.ref (B.1 th), .int a1, .int a2] σ σ (some (.int o)) := by
  refine MF.of (by decide +kernel) (Nat.le_of_ble_eq_true rfl) ?_
  intro p e s m args below meth c C hr w ls hl
  have hl : lv_has ls 5 [(0, .ref (B.1 th)), (1, .int a1), (2, .int a2)] := hl
  have B_7 : ∀ (n7 : Nat) (v3 : Int32) (H : Heap) (locs : List Loc) (ls : Array Slot), L_X6_greatestWithin_7 th a1 a2 n7 σ v3 = some o → WS D cA B S (AB B S) σ s H locs → lv_has ls 5 [(0, .ref (B.1 th)), (1, .int a1), (2, .int a2), (3, .int v3)] → W p l e (rmF 0 0) s m args below meth c H locs 0 0 (MQ below (QF D cA B S σ (some (.int o))) args s 0 0 (AB B S)) (F0 m 7 ls []) := by
    intro n7
    induction n7 with
    | zero => intro  v3 H locs ls h; exact nomatch (show (none : Option (Int32)) = some o from h)
    | succ n7 ih7 =>
      intro  v3 H locs ls h  w hl
      unfold L_X6_greatestWithin_7 at h
      refine lv_iload_n C.1 C.2.1 dX6_greatestWithin_7 rfl (lv_at hl 3 rfl) ?_
      refine lv_if_le (tgt := 55) C.1 C.2.1 dX6_greatestWithin_8 (by decide) (fun hc => ?_) (fun hc => ?_)
      · have h := (if_pos hc).symm.trans h
        refine lv_iconst (v := 0) C.1 C.2.1 dX6_greatestWithin_55 (by decide) ?_
        exact g_iretP C w hr dX6_greatestWithin_56 h
      · have h := (if_neg hc).symm.trans h
        refine lv_iload_n C.1 C.2.1 dX6_greatestWithin_11 rfl (lv_at hl 1 rfl) ?_
        refine lv_iconst (v := 4) C.1 C.2.1 dX6_greatestWithin_12 (by decide) ?_
        refine lv_imul C.1 C.2.1 dX6_greatestWithin_13 ?_
        refine lv_iload_n C.1 C.2.1 dX6_greatestWithin_14 rfl (lv_at hl 3 rfl) ?_
        refine lv_iadd C.1 C.2.1 dX6_greatestWithin_15 ?_
        refine lv_istore (lv' := [(4, .int ((a1 * 4) + v3)), (0, .ref (B.1 th)), (1, .int a1), (2, .int a2), (3, .int v3)]) C.1 C.2.1 dX6_greatestWithin_16 hl (by decide) rfl (fun ls hl => ?_)
        refine lv_iload C.1 C.2.1 dX6_greatestWithin_18 (lv_at hl 0 rfl) ?_
        refine lv_if_lt (tgt := 49) C.1 C.2.1 dX6_greatestWithin_20 (by decide) (fun hc => ?_) (fun hc => ?_)
        · have h := (if_pos hc).symm.trans h
          refine lv_iinc (k := 4) (v := v3 + (-1)) (lv' := [(3, .int (v3 + (-1))), (4, .int ((a1 * 4) + v3)), (0, .ref (B.1 th)), (1, .int a1), (2, .int a2)]) C.1 C.2.1 dX6_greatestWithin_49 hl rfl rfl (by decide) rfl (fun ls hl => ?_)
          refine lv_goto (tgt := 7) C.1 C.2.1 dX6_greatestWithin_52 (by decide) ?_
          exact ih7 _ _ _ _ h w (show lv_has ls 5 [(0, .ref (B.1 th)), (1, .int a1), (2, .int a2), (3, .int (v3 + (-1)))] from lv_sub hl [2, 3, 4, 0] rfl)
        · have h := (if_neg hc).symm.trans h
          refine lv_iload C.1 C.2.1 dX6_greatestWithin_23 (lv_at hl 0 rfl) ?_
          refine lv_aload_n C.1 C.2.1 dX6_greatestWithin_25 rfl (lv_at hl 1 rfl) ?_
          refine g_getR C w fl_X6_15 sth kth (by decide) kt_6_1 (fun _ _ _ => rfl) dX6_greatestWithin_26 (fun s1 k1 => ?_)
          refine g_alen C w s1 k1 (by decide) (by decide) dX6_greatestWithin_29 ?_
          refine lv_icmp_ge (tgt := 49) C.1 C.2.1 dX6_greatestWithin_30 (by decide) (fun hc => ?_) (fun hc => ?_)
          · have h := (if_pos hc).symm.trans h
            refine lv_iinc (k := 4) (v := v3 + (-1)) (lv' := [(3, .int (v3 + (-1))), (4, .int ((a1 * 4) + v3)), (0, .ref (B.1 th)), (1, .int a1), (2, .int a2)]) C.1 C.2.1 dX6_greatestWithin_49 hl rfl rfl (by decide) rfl (fun ls hl => ?_)
            refine lv_goto (tgt := 7) C.1 C.2.1 dX6_greatestWithin_52 (by decide) ?_
            exact ih7 _ _ _ _ h w (show lv_has ls 5 [(0, .ref (B.1 th)), (1, .int a1), (2, .int a2), (3, .int (v3 + (-1)))] from lv_sub hl [2, 3, 4, 0] rfl)
          · have h := (if_neg hc).symm.trans h
            refine lv_aload_n C.1 C.2.1 dX6_greatestWithin_33 rfl (lv_at hl 1 rfl) ?_
            refine g_getR C w fl_X6_15 sth kth (by decide) kt_6_1 (fun _ _ _ => rfl) dX6_greatestWithin_34 (fun s2 k2 => ?_)
            refine lv_iload C.1 C.2.1 dX6_greatestWithin_37 (lv_at hl 0 rfl) ?_
            obtain ⟨hb, h⟩ := g_ob h
            refine g_iald C w s2 k2 hb dX6_greatestWithin_39 ?_
            refine lv_bipush (v := 100) C.1 C.2.1 dX6_greatestWithin_40 (by decide) ?_
            refine lv_imul C.1 C.2.1 dX6_greatestWithin_42 ?_
            refine lv_iload_n C.1 C.2.1 dX6_greatestWithin_43 rfl (lv_at hl 3 rfl) ?_
            refine lv_icmp_gt (tgt := 49) C.1 C.2.1 dX6_greatestWithin_44 (by decide) (fun hc => ?_) (fun hc => ?_)
            · have h := (if_pos hc).symm.trans h
              refine lv_iinc (k := 4) (v := v3 + (-1)) (lv' := [(3, .int (v3 + (-1))), (4, .int ((a1 * 4) + v3)), (0, .ref (B.1 th)), (1, .int a1), (2, .int a2)]) C.1 C.2.1 dX6_greatestWithin_49 hl rfl rfl (by decide) rfl (fun ls hl => ?_)
              refine lv_goto (tgt := 7) C.1 C.2.1 dX6_greatestWithin_52 (by decide) ?_
              exact ih7 _ _ _ _ h w (show lv_has ls 5 [(0, .ref (B.1 th)), (1, .int a1), (2, .int a2), (3, .int (v3 + (-1)))] from lv_sub hl [2, 3, 4, 0] rfl)
            · have h := (if_neg hc).symm.trans h
              refine lv_iload_n C.1 C.2.1 dX6_greatestWithin_47 rfl (lv_at hl 4 rfl) ?_
              exact g_iretP C w hr dX6_greatestWithin_48 h
  have h := h0
  unfold F_X6_greatestWithin at h
  refine lv_aload_n C.1 C.2.1 dX6_greatestWithin_0 rfl (lv_at hl 0 rfl) ?_
  refine g_getI C w fl_X6_36 sth kth (by decide) (fun _ _ _ => rfl) dX6_greatestWithin_1 ?_
  refine lv_iconst (v := 1) C.1 C.2.1 dX6_greatestWithin_4 (by decide) ?_
  refine lv_isub C.1 C.2.1 dX6_greatestWithin_5 ?_
  refine lv_istore_n (lv' := [(3, .int ((gI σ th 6) - 1)), (0, .ref (B.1 th)), (1, .int a1), (2, .int a2)]) C.1 C.2.1 dX6_greatestWithin_6 rfl hl (by decide) rfl (fun ls hl => ?_)
  exact B_7 _ _ _ _ _ h w (show lv_has ls 5 [(0, .ref (B.1 th)), (1, .int a1), (2, .int a2), (3, .int ((gI σ th 6) - 1))] from lv_sub hl [1, 2, 3, 0] rfl)

set_option maxHeartbeats 4000000 in
set_option maxRecDepth 100000 in
theorem m_X7_append {l : Launch} {D : va_G} {cA : Nat → ClassId} {B : BA} {S : Nat → Prop} {σ : GS} {th : Nat} {a1 : Int32} {a2 : Int32} {a3 : Int32} {a4 : Int32} {a5 : Int32} {o : GS × Int32} (sth : S th) (kth : kdG th = 7) (h0 : F_X7_append σ th a1 a2 a3 a4 a5 = some o) : MF l yX7_append cX7_append 6 (some .int) 1 22 D cA B S [.ref (B.1 th), .int a1, .int a2, .int a3, .int a4, .int a5] σ o.1 (some (.int o.2)) := by
  refine MF.of (by decide +kernel) (Nat.le_of_ble_eq_true rfl) ?_
  intro p e s m args below meth c C hr w ls hl
  have hl : lv_has ls 6 [(0, .ref (B.1 th)), (1, .int a1), (2, .int a2), (3, .int a3), (4, .int a4), (5, .int a5)] := hl
  have h := h0
  unfold F_X7_append at h
  refine lv_aload_n C.1 C.2.1 dX7_append_0 rfl (lv_at hl 0 rfl) ?_
  refine g_getR C w fl_X7_10 sth kth (by decide) kt_7_0 (fun _ _ _ => rfl) dX7_append_1 (fun s1 k1 => ?_)
  obtain ⟨o2, ho2, h⟩ := g_bd h
  refine g_callV (n := 0) (As := []) (rest := []) C w (m_X4_hasRoom s1 k1 ho2) (cl_4).1 s1 k1 (by decide) ml_X7_59 iy_X4_hasRoom sy_X4_hasRoom in_X4 cy_X4_hasRoom ⟨rfl, by decide +kernel, by decide +kernel, by decide +kernel⟩ rfl ⟨Nat.le_of_ble_eq_true rfl, Nat.le_of_ble_eq_true rfl⟩ rfl (Nat.le_of_ble_eq_true rfl) hl.1 ⟨Nat.le_of_ble_eq_true rfl, Nat.le_of_ble_eq_true rfl⟩ dX7_append_4 (fun H locs w => ?_)
  refine lv_if_ne (tgt := 12) C.1 C.2.1 dX7_append_7 (by decide) (fun hc => ?_) (fun hc => ?_)
  · have h := (if_neg hc).symm.trans h
    refine lv_aload_n C.1 C.2.1 dX7_append_12 rfl (lv_at hl 0 rfl) ?_
    refine g_getR C w fl_X7_10 sth kth (by decide) kt_7_0 (fun _ _ _ => rfl) dX7_append_13 (fun s3 k3 => ?_)
    refine lv_iload_n C.1 C.2.1 dX7_append_16 rfl (lv_at hl 1 rfl) ?_
    obtain ⟨o4, ho4, h⟩ := g_bd h
    refine g_callV (n := 1) (As := [.int a1]) (rest := []) C w (m_X4_addBytes s3 k3 ho4) (cl_4).1 s3 k3 (by decide) ml_X7_63 iy_X4_addBytes sy_X4_addBytes in_X4 cy_X4_addBytes ⟨rfl, by decide +kernel, by decide +kernel, by decide +kernel⟩ rfl ⟨Nat.le_of_ble_eq_true rfl, Nat.le_of_ble_eq_true rfl⟩ rfl (Nat.le_of_ble_eq_true rfl) hl.1 ⟨Nat.le_of_ble_eq_true rfl, Nat.le_of_ble_eq_true rfl⟩ dX7_append_17 (fun H locs w => ?_)
    refine lv_aload_n C.1 C.2.1 dX7_append_20 rfl (lv_at hl 0 rfl) ?_
    refine g_getR C w fl_X7_10 sth kth (by decide) kt_7_0 (fun _ _ _ => rfl) dX7_append_21 (fun s5 k5 => ?_)
    refine lv_iload_n C.1 C.2.1 dX7_append_24 rfl (lv_at hl 2 rfl) ?_
    obtain ⟨o6, ho6, h⟩ := g_bd h
    refine g_callV (n := 1) (As := [.int a2]) (rest := []) C w (m_X4_addBytes s5 k5 ho6) (cl_4).1 s5 k5 (by decide) ml_X7_63 iy_X4_addBytes sy_X4_addBytes in_X4 cy_X4_addBytes ⟨rfl, by decide +kernel, by decide +kernel, by decide +kernel⟩ rfl ⟨Nat.le_of_ble_eq_true rfl, Nat.le_of_ble_eq_true rfl⟩ rfl (Nat.le_of_ble_eq_true rfl) hl.1 ⟨Nat.le_of_ble_eq_true rfl, Nat.le_of_ble_eq_true rfl⟩ dX7_append_25 (fun H locs w => ?_)
    refine lv_aload_n C.1 C.2.1 dX7_append_28 rfl (lv_at hl 0 rfl) ?_
    refine g_getR C w fl_X7_10 sth kth (by decide) kt_7_0 (fun _ _ _ => rfl) dX7_append_29 (fun s7 k7 => ?_)
    refine lv_iload_n C.1 C.2.1 dX7_append_32 rfl (lv_at hl 3 rfl) ?_
    obtain ⟨o8, ho8, h⟩ := g_bd h
    refine g_callV (n := 1) (As := [.int a3]) (rest := []) C w (m_X4_addBytes s7 k7 ho8) (cl_4).1 s7 k7 (by decide) ml_X7_63 iy_X4_addBytes sy_X4_addBytes in_X4 cy_X4_addBytes ⟨rfl, by decide +kernel, by decide +kernel, by decide +kernel⟩ rfl ⟨Nat.le_of_ble_eq_true rfl, Nat.le_of_ble_eq_true rfl⟩ rfl (Nat.le_of_ble_eq_true rfl) hl.1 ⟨Nat.le_of_ble_eq_true rfl, Nat.le_of_ble_eq_true rfl⟩ dX7_append_33 (fun H locs w => ?_)
    refine lv_aload_n C.1 C.2.1 dX7_append_36 rfl (lv_at hl 0 rfl) ?_
    refine g_getR C w fl_X7_10 sth kth (by decide) kt_7_0 (fun _ _ _ => rfl) dX7_append_37 (fun s9 k9 => ?_)
    refine lv_iload C.1 C.2.1 dX7_append_40 (lv_at hl 4 rfl) ?_
    obtain ⟨o10, ho10, h⟩ := g_bd h
    refine g_callV (n := 1) (As := [.int a4]) (rest := []) C w (m_X4_addBytes s9 k9 ho10) (cl_4).1 s9 k9 (by decide) ml_X7_63 iy_X4_addBytes sy_X4_addBytes in_X4 cy_X4_addBytes ⟨rfl, by decide +kernel, by decide +kernel, by decide +kernel⟩ rfl ⟨Nat.le_of_ble_eq_true rfl, Nat.le_of_ble_eq_true rfl⟩ rfl (Nat.le_of_ble_eq_true rfl) hl.1 ⟨Nat.le_of_ble_eq_true rfl, Nat.le_of_ble_eq_true rfl⟩ dX7_append_42 (fun H locs w => ?_)
    refine lv_aload_n C.1 C.2.1 dX7_append_45 rfl (lv_at hl 0 rfl) ?_
    refine g_getR C w fl_X7_10 sth kth (by decide) kt_7_0 (fun _ _ _ => rfl) dX7_append_46 (fun s11 k11 => ?_)
    refine lv_iload C.1 C.2.1 dX7_append_49 (lv_at hl 5 rfl) ?_
    obtain ⟨o12, ho12, h⟩ := g_bd h
    refine g_callV (n := 1) (As := [.int a5]) (rest := []) C w (m_X4_addBytes s11 k11 ho12) (cl_4).1 s11 k11 (by decide) ml_X7_63 iy_X4_addBytes sy_X4_addBytes in_X4 cy_X4_addBytes ⟨rfl, by decide +kernel, by decide +kernel, by decide +kernel⟩ rfl ⟨Nat.le_of_ble_eq_true rfl, Nat.le_of_ble_eq_true rfl⟩ rfl (Nat.le_of_ble_eq_true rfl) hl.1 ⟨Nat.le_of_ble_eq_true rfl, Nat.le_of_ble_eq_true rfl⟩ dX7_append_51 (fun H locs w => ?_)
    refine lv_aload_n C.1 C.2.1 dX7_append_54 rfl (lv_at hl 0 rfl) ?_
    refine g_getR C w fl_X7_10 sth kth (by decide) kt_7_0 (fun _ _ _ => rfl) dX7_append_55 (fun s13 k13 => ?_)
    refine g_getI C w fl_X7_67 s13 k13 (by decide) (fun _ _ _ => rfl) dX7_append_58 ?_
    exact g_iretB C w hr dX7_append_61 h
  · have h := (if_pos hc).symm.trans h
    refine lv_iconst (v := (-1)) C.1 C.2.1 dX7_append_10 (by decide) ?_
    exact g_iretB C w hr dX7_append_11 h

set_option maxHeartbeats 4000000 in
set_option maxRecDepth 100000 in
theorem m_X7_size {l : Launch} {D : va_G} {cA : Nat → ClassId} {B : BA} {S : Nat → Prop} {σ : GS} {th : Nat} {a1 : Int32} {o : Int32} (sth : S th) (kth : kdG th = 7) (h0 : F_X7_size σ th a1 = some o) : MF l yX7_size cX7_size 2 (some .int) 2 45 D cA B S [.ref (B.1 th), .int a1] σ σ (some (.int o)) := by
  refine MF.of (by decide +kernel) (Nat.le_of_ble_eq_true rfl) ?_
  intro p e s m args below meth c C hr w ls hl
  have hl : lv_has ls 2 [(0, .ref (B.1 th)), (1, .int a1)] := hl
  have h := h0
  unfold F_X7_size at h
  refine lv_iload_n C.1 C.2.1 dX7_size_0 rfl (lv_at hl 1 rfl) ?_
  by_cases hc0 : a1 = 0
  · have h := (if_pos hc0).symm.trans h
    refine lv_tableIn (off := 59) (tgt := 60) C.1 C.2.1 dX7_size_1 (by rw [hc0]; decide) (by rw [hc0]; decide) (by rw [hc0]; decide) (by decide) ?_
    refine lv_aload_n C.1 C.2.1 dX7_size_60 rfl (lv_at hl 0 rfl) ?_
    refine g_getR C w fl_X7_19 sth kth (by decide) kt_7_1 (fun _ _ _ => rfl) dX7_size_61 (fun s1 k1 => ?_)
    refine g_getI C w fl_X7_90 s1 k1 (by decide) (fun _ _ _ => rfl) dX7_size_64 ?_
    exact g_iretP C w hr dX7_size_67 h
  have h := (if_neg hc0).symm.trans h
  by_cases hc1 : a1 = 1
  · have h := (if_pos hc1).symm.trans h
    refine lv_tableIn (off := 67) (tgt := 68) C.1 C.2.1 dX7_size_1 (by rw [hc1]; decide) (by rw [hc1]; decide) (by rw [hc1]; decide) (by decide) ?_
    refine lv_aload_n C.1 C.2.1 dX7_size_68 rfl (lv_at hl 0 rfl) ?_
    refine g_getR C w fl_X7_19 sth kth (by decide) kt_7_1 (fun _ _ _ => rfl) dX7_size_69 (fun s2 k2 => ?_)
    refine g_getI C w fl_X7_93 s2 k2 (by decide) (fun _ _ _ => rfl) dX7_size_72 ?_
    exact g_iretP C w hr dX7_size_75 h
  have h := (if_neg hc1).symm.trans h
  by_cases hc2 : a1 = 2
  · have h := (if_pos hc2).symm.trans h
    refine lv_tableIn (off := 75) (tgt := 76) C.1 C.2.1 dX7_size_1 (by rw [hc2]; decide) (by rw [hc2]; decide) (by rw [hc2]; decide) (by decide) ?_
    refine lv_aload_n C.1 C.2.1 dX7_size_76 rfl (lv_at hl 0 rfl) ?_
    refine g_getR C w fl_X7_19 sth kth (by decide) kt_7_1 (fun _ _ _ => rfl) dX7_size_77 (fun s3 k3 => ?_)
    refine g_getI C w fl_X7_96 s3 k3 (by decide) (fun _ _ _ => rfl) dX7_size_80 ?_
    exact g_iretP C w hr dX7_size_83 h
  have h := (if_neg hc2).symm.trans h
  by_cases hc3 : a1 = 3
  · have h := (if_pos hc3).symm.trans h
    refine lv_tableIn (off := 83) (tgt := 84) C.1 C.2.1 dX7_size_1 (by rw [hc3]; decide) (by rw [hc3]; decide) (by rw [hc3]; decide) (by decide) ?_
    refine lv_aload_n C.1 C.2.1 dX7_size_84 rfl (lv_at hl 0 rfl) ?_
    refine g_getR C w fl_X7_19 sth kth (by decide) kt_7_1 (fun _ _ _ => rfl) dX7_size_85 (fun s4 k4 => ?_)
    refine g_getI C w fl_X7_99 s4 k4 (by decide) (fun _ _ _ => rfl) dX7_size_88 ?_
    exact g_iretP C w hr dX7_size_91 h
  have h := (if_neg hc3).symm.trans h
  by_cases hc4 : a1 = 4
  · have h := (if_pos hc4).symm.trans h
    refine lv_tableIn (off := 91) (tgt := 92) C.1 C.2.1 dX7_size_1 (by rw [hc4]; decide) (by rw [hc4]; decide) (by rw [hc4]; decide) (by decide) ?_
    refine lv_aload_n C.1 C.2.1 dX7_size_92 rfl (lv_at hl 0 rfl) ?_
    refine g_getR C w fl_X7_19 sth kth (by decide) kt_7_1 (fun _ _ _ => rfl) dX7_size_93 (fun s5 k5 => ?_)
    refine g_getI C w fl_X7_102 s5 k5 (by decide) (fun _ _ _ => rfl) dX7_size_96 ?_
    exact g_iretP C w hr dX7_size_99 h
  have h := (if_neg hc4).symm.trans h
  by_cases hc5 : a1 = 5
  · have h := (if_pos hc5).symm.trans h
    refine lv_tableIn (off := 99) (tgt := 100) C.1 C.2.1 dX7_size_1 (by rw [hc5]; decide) (by rw [hc5]; decide) (by rw [hc5]; decide) (by decide) ?_
    refine lv_aload_n C.1 C.2.1 dX7_size_100 rfl (lv_at hl 0 rfl) ?_
    refine g_getR C w fl_X7_19 sth kth (by decide) kt_7_1 (fun _ _ _ => rfl) dX7_size_101 (fun s6 k6 => ?_)
    refine g_getI C w fl_X7_105 s6 k6 (by decide) (fun _ _ _ => rfl) dX7_size_104 ?_
    exact g_iretP C w hr dX7_size_107 h
  have h := (if_neg hc5).symm.trans h
  by_cases hc6 : a1 = 6
  · have h := (if_pos hc6).symm.trans h
    refine lv_tableIn (off := 107) (tgt := 108) C.1 C.2.1 dX7_size_1 (by rw [hc6]; decide) (by rw [hc6]; decide) (by rw [hc6]; decide) (by decide) ?_
    refine lv_aload_n C.1 C.2.1 dX7_size_108 rfl (lv_at hl 0 rfl) ?_
    refine g_getR C w fl_X7_19 sth kth (by decide) kt_7_1 (fun _ _ _ => rfl) dX7_size_109 (fun s7 k7 => ?_)
    refine g_getI C w fl_X7_108 s7 k7 (by decide) (fun _ _ _ => rfl) dX7_size_112 ?_
    exact g_iretP C w hr dX7_size_115 h
  have h := (if_neg hc6).symm.trans h
  by_cases hc7 : a1 = 7
  · have h := (if_pos hc7).symm.trans h
    refine lv_tableIn (off := 115) (tgt := 116) C.1 C.2.1 dX7_size_1 (by rw [hc7]; decide) (by rw [hc7]; decide) (by rw [hc7]; decide) (by decide) ?_
    refine lv_aload_n C.1 C.2.1 dX7_size_116 rfl (lv_at hl 0 rfl) ?_
    refine g_getR C w fl_X7_28 sth kth (by decide) kt_7_2 (fun _ _ _ => rfl) dX7_size_117 (fun s8 k8 => ?_)
    refine g_getI C w fl_X7_111 s8 k8 (by decide) (fun _ _ _ => rfl) dX7_size_120 ?_
    exact g_iretP C w hr dX7_size_123 h
  have h := (if_neg hc7).symm.trans h
  by_cases hc8 : a1 = 8
  · have h := (if_pos hc8).symm.trans h
    refine lv_tableIn (off := 123) (tgt := 124) C.1 C.2.1 dX7_size_1 (by rw [hc8]; decide) (by rw [hc8]; decide) (by rw [hc8]; decide) (by decide) ?_
    refine lv_aload_n C.1 C.2.1 dX7_size_124 rfl (lv_at hl 0 rfl) ?_
    refine g_getR C w fl_X7_28 sth kth (by decide) kt_7_2 (fun _ _ _ => rfl) dX7_size_125 (fun s9 k9 => ?_)
    obtain ⟨o10, ho10, h⟩ := g_bd h
    refine g_callV (n := 0) (As := []) (rest := []) C w (m_X5_countLoading s9 k9 ho10) (cl_5).1 s9 k9 (by decide) ml_X7_114 iy_X5_countLoading sy_X5_countLoading in_X5 cy_X5_countLoading ⟨rfl, by decide +kernel, by decide +kernel, by decide +kernel⟩ rfl ⟨Nat.le_of_ble_eq_true rfl, Nat.le_of_ble_eq_true rfl⟩ rfl (Nat.le_of_ble_eq_true rfl) hl.1 ⟨Nat.le_of_ble_eq_true rfl, Nat.le_of_ble_eq_true rfl⟩ dX7_size_128 (fun H locs w => ?_)
    exact g_iretP C w hr dX7_size_131 h
  have h := (if_neg hc8).symm.trans h
  by_cases hc9 : a1 = 9
  · have h := (if_pos hc9).symm.trans h
    refine lv_tableIn (off := 131) (tgt := 132) C.1 C.2.1 dX7_size_1 (by rw [hc9]; decide) (by rw [hc9]; decide) (by rw [hc9]; decide) (by decide) ?_
    refine lv_aload_n C.1 C.2.1 dX7_size_132 rfl (lv_at hl 0 rfl) ?_
    refine g_getR C w fl_X7_28 sth kth (by decide) kt_7_2 (fun _ _ _ => rfl) dX7_size_133 (fun s11 k11 => ?_)
    obtain ⟨o12, ho12, h⟩ := g_bd h
    refine g_callV (n := 0) (As := []) (rest := []) C w (m_X5_countDone s11 k11 ho12) (cl_5).1 s11 k11 (by decide) ml_X7_118 iy_X5_countDone sy_X5_countDone in_X5 cy_X5_countDone ⟨rfl, by decide +kernel, by decide +kernel, by decide +kernel⟩ rfl ⟨Nat.le_of_ble_eq_true rfl, Nat.le_of_ble_eq_true rfl⟩ rfl (Nat.le_of_ble_eq_true rfl) hl.1 ⟨Nat.le_of_ble_eq_true rfl, Nat.le_of_ble_eq_true rfl⟩ dX7_size_136 (fun H locs w => ?_)
    exact g_iretP C w hr dX7_size_139 h
  have h := (if_neg hc9).symm.trans h
  by_cases hc10 : a1 = 10
  · have h := (if_pos hc10).symm.trans h
    refine lv_tableIn (off := 139) (tgt := 140) C.1 C.2.1 dX7_size_1 (by rw [hc10]; decide) (by rw [hc10]; decide) (by rw [hc10]; decide) (by decide) ?_
    refine lv_aload_n C.1 C.2.1 dX7_size_140 rfl (lv_at hl 0 rfl) ?_
    refine g_getR C w fl_X7_44 sth kth (by decide) kt_7_4 (fun _ _ _ => rfl) dX7_size_141 (fun s13 k13 => ?_)
    refine g_getI C w fl_X7_121 s13 k13 (by decide) (fun _ _ _ => rfl) dX7_size_144 ?_
    exact g_iretP C w hr dX7_size_147 h
  have h := (if_neg hc10).symm.trans h
  refine lv_tableOut (tgt := 148) C.1 C.2.1 dX7_size_1 (g_sw0_10 hc0 hc1 hc2 hc3 hc4 hc5 hc6 hc7 hc8 hc9 hc10) (by decide) ?_
  cases h

set_option maxHeartbeats 4000000 in
set_option maxRecDepth 100000 in
theorem m_X7_rate {l : Launch} {D : va_G} {cA : Nat → ClassId} {B : BA} {S : Nat → Prop} {σ : GS} {th : Nat} {a1 : Int32} {o : Int32} (sth : S th) (kth : kdG th = 7) (h0 : F_X7_rate σ th a1 = some o) : MF l yX7_rate cX7_rate 2 (some .int) 1 23 D cA B S [.ref (B.1 th), .int a1] σ σ (some (.int o)) := by
  refine MF.of (by decide +kernel) (Nat.le_of_ble_eq_true rfl) ?_
  intro p e s m args below meth c C hr w ls hl
  have hl : lv_has ls 2 [(0, .ref (B.1 th)), (1, .int a1)] := hl
  have h := h0
  unfold F_X7_rate at h
  refine lv_iload_n C.1 C.2.1 dX7_rate_0 rfl (lv_at hl 1 rfl) ?_
  refine lv_if_ge (tgt := 12) C.1 C.2.1 dX7_rate_1 (by decide) (fun hc => ?_) (fun hc => ?_)
  · have h := (if_pos hc).symm.trans h
    refine lv_aload_n C.1 C.2.1 dX7_rate_12 rfl (lv_at hl 0 rfl) ?_
    refine g_getR C w fl_X7_28 sth kth (by decide) kt_7_2 (fun _ _ _ => rfl) dX7_rate_13 (fun s1 k1 => ?_)
    refine lv_iload_n C.1 C.2.1 dX7_rate_16 rfl (lv_at hl 1 rfl) ?_
    obtain ⟨o2, ho2, h⟩ := g_bd h
    refine g_callV (n := 1) (As := [.int a1]) (rest := []) C w (m_X5_rateAt s1 k1 ho2) (cl_5).1 s1 k1 (by decide) ml_X7_132 iy_X5_rateAt sy_X5_rateAt in_X5 cy_X5_rateAt ⟨rfl, by decide +kernel, by decide +kernel, by decide +kernel⟩ rfl ⟨Nat.le_of_ble_eq_true rfl, Nat.le_of_ble_eq_true rfl⟩ rfl (Nat.le_of_ble_eq_true rfl) hl.1 ⟨Nat.le_of_ble_eq_true rfl, Nat.le_of_ble_eq_true rfl⟩ dX7_rate_17 (fun H locs w => ?_)
    exact g_iretP C w hr dX7_rate_20 h
  · have h := (if_neg hc).symm.trans h
    cases h

set_option maxHeartbeats 4000000 in
set_option maxRecDepth 100000 in
theorem m_X7_fairness {l : Launch} {D : va_G} {cA : Nat → ClassId} {B : BA} {S : Nat → Prop} {σ : GS} {th : Nat} {o : UInt64} (sth : S th) (kth : kdG th = 7) (h0 : F_X7_fairness σ th = some o) : MF l yX7_fairness cX7_fairness 11 (some .double) 0 0 D cA B S [.ref (B.1 th)] σ σ (some (.double o)) := by
  refine MF.of (by decide +kernel) (Nat.le_of_ble_eq_true rfl) ?_
  intro p e s m args below meth c C hr w ls hl
  have hl : lv_has ls 11 [(0, .ref (B.1 th))] := hl
  have B_21 : ∀ (n21 : Nat) (v1 : UInt64) (v3 : UInt64) (v7 : Int32) (H : Heap) (locs : List Loc) (ls : Array Slot), L_X7_fairness_21 th n21 σ v1 v3 v7 = some o → S (rfG (rfG th 2) 2) → kdG (rfG (rfG th 2) 2) = 13 → WS D cA B S (AB B S) σ s H locs → lv_has ls 11 [(0, .ref (B.1 th)), (1, .double v1), (3, .double v3), (5, .ref (B.1 (rfG (rfG th 2) 2))), (6, .int (nI (lnG (rfG (rfG th 2) 2)))), (7, .int v7)] → W p l e (rmF 0 0) s m args below meth c H locs 0 0 (MQ below (QF D cA B S σ (some (.double o))) args s 0 0 (AB B S)) (F0 m 21 ls []) := by
    intro n21
    induction n21 with
    | zero => intro  v1 v3 v7 H locs ls h; exact nomatch (show (none : Option (UInt64)) = some o from h)
    | succ n21 ih21 =>
      intro  v1 v3 v7 H locs ls h s2 k2 w hl
      unfold L_X7_fairness_21 at h
      refine lv_iload C.1 C.2.1 dX7_fairness_21 (lv_at hl 5 rfl) ?_
      refine lv_iload C.1 C.2.1 dX7_fairness_23 (lv_at hl 4 rfl) ?_
      refine lv_icmp_ge (tgt := 77) C.1 C.2.1 dX7_fairness_25 (by decide) (fun hc => ?_) (fun hc => ?_)
      · have h := (if_pos hc).symm.trans h
        refine lv_dload_n C.1 C.2.1 dX7_fairness_77 rfl (lv_at hl 2 rfl) ?_
        refine lv_dconst0 C.1 C.2.1 dX7_fairness_78 ?_
        refine lv_dcmp C.1 C.2.1 dX7_fairness_79 ?_
        refine lv_if_le (tgt := 110) C.1 C.2.1 dX7_fairness_80 (by decide) (fun hc => ?_) (fun hc => ?_)
        · have h := (if_pos hc).symm.trans h
          refine lv_dconst1 C.1 C.2.1 dX7_fairness_110 ?_
          exact g_dretP C w hr dX7_fairness_111 h
        · have h := (if_neg hc).symm.trans h
          refine lv_aload_n C.1 C.2.1 dX7_fairness_83 rfl (lv_at hl 0 rfl) ?_
          refine g_getR C w fl_X7_19 sth kth (by decide) kt_7_1 (fun _ _ _ => rfl) dX7_fairness_84 (fun s3 k3 => ?_)
          refine g_getI C w fl_X7_90 s3 k3 (by decide) (fun _ _ _ => rfl) dX7_fairness_87 ?_
          refine lv_if_le (tgt := 110) C.1 C.2.1 dX7_fairness_90 (by decide) (fun hc => ?_) (fun hc => ?_)
          · have h := (if_pos hc).symm.trans h
            refine lv_dconst1 C.1 C.2.1 dX7_fairness_110 ?_
            exact g_dretP C w hr dX7_fairness_111 h
          · have h := (if_neg hc).symm.trans h
            refine lv_dload_n C.1 C.2.1 dX7_fairness_93 rfl (lv_at hl 1 rfl) ?_
            refine lv_dload_n C.1 C.2.1 dX7_fairness_94 rfl (lv_at hl 1 rfl) ?_
            obtain ⟨hb, h⟩ := g_ob h
            refine lv_dmul C.1 C.2.1 dX7_fairness_95 hb ?_
            refine lv_aload_n C.1 C.2.1 dX7_fairness_96 rfl (lv_at hl 0 rfl) ?_
            refine g_getR C w fl_X7_19 sth kth (by decide) kt_7_1 (fun _ _ _ => rfl) dX7_fairness_97 (fun s4 k4 => ?_)
            refine g_getI C w fl_X7_90 s4 k4 (by decide) (fun _ _ _ => rfl) dX7_fairness_100 ?_
            refine lv_i2d C.1 C.2.1 dX7_fairness_103 ?_
            refine lv_dload_n C.1 C.2.1 dX7_fairness_104 rfl (lv_at hl 2 rfl) ?_
            obtain ⟨hb, h⟩ := g_ob h
            refine lv_dmul C.1 C.2.1 dX7_fairness_105 hb ?_
            obtain ⟨hb, h⟩ := g_ob h
            refine lv_ddiv C.1 C.2.1 dX7_fairness_106 hb ?_
            refine lv_goto (tgt := 111) C.1 C.2.1 dX7_fairness_107 (by decide) ?_
            exact g_dretP C w hr dX7_fairness_111 h
      · have h := (if_neg hc).symm.trans h
        refine lv_aload C.1 C.2.1 dX7_fairness_28 (lv_at hl 3 rfl) ?_
        refine lv_iload C.1 C.2.1 dX7_fairness_30 (lv_at hl 5 rfl) ?_
        obtain ⟨hb, h⟩ := g_ob h
        refine g_aald C w s2 k2 (by decide) (by decide) rfl rfl (fun _ _ _ _ => rfl) kr_13 hb dX7_fairness_32 (fun s5 k5 => ?_)
        refine lv_astore (lv' := [(8, .ref (B.1 (rfG (rfG (rfG th 2) 2) v7.toNatClampNeg))), (0, .ref (B.1 th)), (1, .double v1), (3, .double v3), (5, .ref (B.1 (rfG (rfG th 2) 2))), (6, .int (nI (lnG (rfG (rfG th 2) 2)))), (7, .int v7)]) C.1 C.2.1 dX7_fairness_33 hl (by decide) rfl (fun ls hl => ?_)
        refine lv_aload C.1 C.2.1 dX7_fairness_35 (lv_at hl 0 rfl) ?_
        refine g_getI C w fl_X7_178 s5 k5 (by decide) (fun _ _ _ => rfl) dX7_fairness_37 ?_
        refine lv_if_le (tgt := 71) C.1 C.2.1 dX7_fairness_40 (by decide) (fun hc => ?_) (fun hc => ?_)
        · have h := (if_pos hc).symm.trans h
          refine lv_iinc (k := 6) (v := v7 + 1) (lv' := [(7, .int (v7 + 1)), (8, .ref (B.1 (rfG (rfG (rfG th 2) 2) v7.toNatClampNeg))), (0, .ref (B.1 th)), (1, .double v1), (3, .double v3), (5, .ref (B.1 (rfG (rfG th 2) 2))), (6, .int (nI (lnG (rfG (rfG th 2) 2))))]) C.1 C.2.1 dX7_fairness_71 hl rfl rfl (by decide) rfl (fun ls hl => ?_)
          refine lv_goto (tgt := 21) C.1 C.2.1 dX7_fairness_74 (by decide) ?_
          exact ih21 _ _ _ _ _ _ h s2 k2 w (show lv_has ls 11 [(0, .ref (B.1 th)), (1, .double v1), (3, .double v3), (5, .ref (B.1 (rfG (rfG th 2) 2))), (6, .int (nI (lnG (rfG (rfG th 2) 2)))), (7, .int (v7 + 1))] from lv_sub hl [2, 3, 4, 5, 6, 0] rfl)
        · have h := (if_neg hc).symm.trans h
          refine lv_aload C.1 C.2.1 dX7_fairness_43 (lv_at hl 0 rfl) ?_
          refine g_getI C w fl_X7_169 s5 k5 (by decide) (fun _ _ _ => rfl) dX7_fairness_45 ?_
          refine lv_i2d C.1 C.2.1 dX7_fairness_48 ?_
          refine lv_aload C.1 C.2.1 dX7_fairness_49 (lv_at hl 0 rfl) ?_
          refine g_getI C w fl_X7_178 s5 k5 (by decide) (fun _ _ _ => rfl) dX7_fairness_51 ?_
          refine lv_i2d C.1 C.2.1 dX7_fairness_54 ?_
          obtain ⟨hb, h⟩ := g_ob h
          refine lv_ddiv C.1 C.2.1 dX7_fairness_55 hb ?_
          refine lv_dstore (lv' := [(9, .double (FP.ddiv (FP.i2d (gI σ (rfG (rfG (rfG th 2) 2) v7.toNatClampNeg) 16)) (FP.i2d (gI σ (rfG (rfG (rfG th 2) 2) v7.toNatClampNeg) 7)))), (8, .ref (B.1 (rfG (rfG (rfG th 2) 2) v7.toNatClampNeg))), (0, .ref (B.1 th)), (1, .double v1), (3, .double v3), (5, .ref (B.1 (rfG (rfG th 2) 2))), (6, .int (nI (lnG (rfG (rfG th 2) 2)))), (7, .int v7)]) C.1 C.2.1 dX7_fairness_56 hl (by decide) rfl (fun ls hl => ?_)
          refine lv_dload_n C.1 C.2.1 dX7_fairness_58 rfl (lv_at hl 3 rfl) ?_
          refine lv_dload C.1 C.2.1 dX7_fairness_59 (lv_at hl 0 rfl) ?_
          obtain ⟨hb, h⟩ := g_ob h
          refine lv_dadd C.1 C.2.1 dX7_fairness_61 hb ?_
          refine lv_dstore_n (lv' := [(1, .double (FP.dadd v1 (FP.ddiv (FP.i2d (gI σ (rfG (rfG (rfG th 2) 2) v7.toNatClampNeg) 16)) (FP.i2d (gI σ (rfG (rfG (rfG th 2) 2) v7.toNatClampNeg) 7))))), (9, .double (FP.ddiv (FP.i2d (gI σ (rfG (rfG (rfG th 2) 2) v7.toNatClampNeg) 16)) (FP.i2d (gI σ (rfG (rfG (rfG th 2) 2) v7.toNatClampNeg) 7)))), (8, .ref (B.1 (rfG (rfG (rfG th 2) 2) v7.toNatClampNeg))), (0, .ref (B.1 th)), (3, .double v3), (5, .ref (B.1 (rfG (rfG th 2) 2))), (6, .int (nI (lnG (rfG (rfG th 2) 2)))), (7, .int v7)]) C.1 C.2.1 dX7_fairness_62 rfl hl (by decide) rfl (fun ls hl => ?_)
          refine lv_dload_n C.1 C.2.1 dX7_fairness_63 rfl (lv_at hl 4 rfl) ?_
          refine lv_dload C.1 C.2.1 dX7_fairness_64 (lv_at hl 1 rfl) ?_
          refine lv_dload C.1 C.2.1 dX7_fairness_66 (lv_at hl 1 rfl) ?_
          obtain ⟨hb, h⟩ := g_ob h
          refine lv_dmul C.1 C.2.1 dX7_fairness_68 hb ?_
          obtain ⟨hb, h⟩ := g_ob h
          refine lv_dadd C.1 C.2.1 dX7_fairness_69 hb ?_
          refine lv_dstore_n (lv' := [(3, .double (FP.dadd v3 (FP.dmul (FP.ddiv (FP.i2d (gI σ (rfG (rfG (rfG th 2) 2) v7.toNatClampNeg) 16)) (FP.i2d (gI σ (rfG (rfG (rfG th 2) 2) v7.toNatClampNeg) 7))) (FP.ddiv (FP.i2d (gI σ (rfG (rfG (rfG th 2) 2) v7.toNatClampNeg) 16)) (FP.i2d (gI σ (rfG (rfG (rfG th 2) 2) v7.toNatClampNeg) 7)))))), (1, .double (FP.dadd v1 (FP.ddiv (FP.i2d (gI σ (rfG (rfG (rfG th 2) 2) v7.toNatClampNeg) 16)) (FP.i2d (gI σ (rfG (rfG (rfG th 2) 2) v7.toNatClampNeg) 7))))), (9, .double (FP.ddiv (FP.i2d (gI σ (rfG (rfG (rfG th 2) 2) v7.toNatClampNeg) 16)) (FP.i2d (gI σ (rfG (rfG (rfG th 2) 2) v7.toNatClampNeg) 7)))), (8, .ref (B.1 (rfG (rfG (rfG th 2) 2) v7.toNatClampNeg))), (0, .ref (B.1 th)), (5, .ref (B.1 (rfG (rfG th 2) 2))), (6, .int (nI (lnG (rfG (rfG th 2) 2)))), (7, .int v7)]) C.1 C.2.1 dX7_fairness_70 rfl hl (by decide) rfl (fun ls hl => ?_)
          refine lv_iinc (k := 7) (v := v7 + 1) (lv' := [(7, .int (v7 + 1)), (3, .double (FP.dadd v3 (FP.dmul (FP.ddiv (FP.i2d (gI σ (rfG (rfG (rfG th 2) 2) v7.toNatClampNeg) 16)) (FP.i2d (gI σ (rfG (rfG (rfG th 2) 2) v7.toNatClampNeg) 7))) (FP.ddiv (FP.i2d (gI σ (rfG (rfG (rfG th 2) 2) v7.toNatClampNeg) 16)) (FP.i2d (gI σ (rfG (rfG (rfG th 2) 2) v7.toNatClampNeg) 7)))))), (1, .double (FP.dadd v1 (FP.ddiv (FP.i2d (gI σ (rfG (rfG (rfG th 2) 2) v7.toNatClampNeg) 16)) (FP.i2d (gI σ (rfG (rfG (rfG th 2) 2) v7.toNatClampNeg) 7))))), (9, .double (FP.ddiv (FP.i2d (gI σ (rfG (rfG (rfG th 2) 2) v7.toNatClampNeg) 16)) (FP.i2d (gI σ (rfG (rfG (rfG th 2) 2) v7.toNatClampNeg) 7)))), (8, .ref (B.1 (rfG (rfG (rfG th 2) 2) v7.toNatClampNeg))), (0, .ref (B.1 th)), (5, .ref (B.1 (rfG (rfG th 2) 2))), (6, .int (nI (lnG (rfG (rfG th 2) 2))))]) C.1 C.2.1 dX7_fairness_71 hl rfl rfl (by decide) rfl (fun ls hl => ?_)
          refine lv_goto (tgt := 21) C.1 C.2.1 dX7_fairness_74 (by decide) ?_
          exact ih21 _ _ _ _ _ _ h s2 k2 w (show lv_has ls 11 [(0, .ref (B.1 th)), (1, .double (FP.dadd v1 (FP.ddiv (FP.i2d (gI σ (rfG (rfG (rfG th 2) 2) v7.toNatClampNeg) 16)) (FP.i2d (gI σ (rfG (rfG (rfG th 2) 2) v7.toNatClampNeg) 7))))), (3, .double (FP.dadd v3 (FP.dmul (FP.ddiv (FP.i2d (gI σ (rfG (rfG (rfG th 2) 2) v7.toNatClampNeg) 16)) (FP.i2d (gI σ (rfG (rfG (rfG th 2) 2) v7.toNatClampNeg) 7))) (FP.ddiv (FP.i2d (gI σ (rfG (rfG (rfG th 2) 2) v7.toNatClampNeg) 16)) (FP.i2d (gI σ (rfG (rfG (rfG th 2) 2) v7.toNatClampNeg) 7)))))), (5, .ref (B.1 (rfG (rfG th 2) 2))), (6, .int (nI (lnG (rfG (rfG th 2) 2)))), (7, .int (v7 + 1))] from lv_sub hl [5, 2, 1, 6, 7, 0] rfl)
  have h := h0
  unfold F_X7_fairness at h
  refine lv_dconst0 C.1 C.2.1 dX7_fairness_0 ?_
  refine lv_dstore_n (lv' := [(1, .double FP.dconst0), (0, .ref (B.1 th))]) C.1 C.2.1 dX7_fairness_1 rfl hl (by decide) rfl (fun ls hl => ?_)
  refine lv_dconst0 C.1 C.2.1 dX7_fairness_2 ?_
  refine lv_dstore_n (lv' := [(3, .double FP.dconst0), (1, .double FP.dconst0), (0, .ref (B.1 th))]) C.1 C.2.1 dX7_fairness_3 rfl hl (by decide) rfl (fun ls hl => ?_)
  refine lv_aload_n C.1 C.2.1 dX7_fairness_4 rfl (lv_at hl 2 rfl) ?_
  refine g_getR C w fl_X7_28 sth kth (by decide) kt_7_2 (fun _ _ _ => rfl) dX7_fairness_5 (fun s1 k1 => ?_)
  refine g_getR C w fl_X7_247 s1 k1 (by decide) kt_5_2 (fun _ _ _ => rfl) dX7_fairness_8 (fun s2 k2 => ?_)
  refine lv_astore (lv' := [(5, .ref (B.1 (rfG (rfG th 2) 2))), (3, .double FP.dconst0), (1, .double FP.dconst0), (0, .ref (B.1 th))]) C.1 C.2.1 dX7_fairness_11 hl (by decide) rfl (fun ls hl => ?_)
  refine lv_aload C.1 C.2.1 dX7_fairness_13 (lv_at hl 0 rfl) ?_
  refine g_alen C w s2 k2 (by decide) (by decide) dX7_fairness_15 ?_
  refine lv_istore (lv' := [(6, .int (nI (lnG (rfG (rfG th 2) 2)))), (5, .ref (B.1 (rfG (rfG th 2) 2))), (3, .double FP.dconst0), (1, .double FP.dconst0), (0, .ref (B.1 th))]) C.1 C.2.1 dX7_fairness_16 hl (by decide) rfl (fun ls hl => ?_)
  refine lv_iconst (v := 0) C.1 C.2.1 dX7_fairness_18 (by decide) ?_
  refine lv_istore (lv' := [(7, .int 0), (6, .int (nI (lnG (rfG (rfG th 2) 2)))), (5, .ref (B.1 (rfG (rfG th 2) 2))), (3, .double FP.dconst0), (1, .double FP.dconst0), (0, .ref (B.1 th))]) C.1 C.2.1 dX7_fairness_19 hl (by decide) rfl (fun ls hl => ?_)
  exact B_21 _ _ _ _ _ _ _ h s2 k2 w (show lv_has ls 11 [(0, .ref (B.1 th)), (1, .double FP.dconst0), (3, .double FP.dconst0), (5, .ref (B.1 (rfG (rfG th 2) 2))), (6, .int (nI (lnG (rfG (rfG th 2) 2)))), (7, .int 0)] from lv_sub hl [5, 4, 3, 2, 1, 0] rfl)

set_option maxHeartbeats 4000000 in
set_option maxRecDepth 100000 in
theorem m_X7_account {l : Launch} {D : va_G} {cA : Nat → ClassId} {B : BA} {S : Nat → Prop} {σ : GS} {th : Nat} {a1 : Int32} {o : Int32} (sth : S th) (kth : kdG th = 7) (h0 : F_X7_account σ th a1 = some o) : MF l yX7_account cX7_account 2 (some .int) 1 25 D cA B S [.ref (B.1 th), .int a1] σ σ (some (.int o)) := by
  refine MF.of (by decide +kernel) (Nat.le_of_ble_eq_true rfl) ?_
  intro p e s m args below meth c C hr w ls hl
  have hl : lv_has ls 2 [(0, .ref (B.1 th)), (1, .int a1)] := hl
  have h := h0
  unfold F_X7_account at h
  refine lv_iload_n C.1 C.2.1 dX7_account_0 rfl (lv_at hl 1 rfl) ?_
  by_cases hc0 : a1 = 0
  · have h := (if_pos hc0).symm.trans h
    refine lv_tableIn (off := 31) (tgt := 32) C.1 C.2.1 dX7_account_1 (by rw [hc0]; decide) (by rw [hc0]; decide) (by rw [hc0]; decide) (by decide) ?_
    refine lv_aload_n C.1 C.2.1 dX7_account_32 rfl (lv_at hl 0 rfl) ?_
    refine g_getR C w fl_X7_28 sth kth (by decide) kt_7_2 (fun _ _ _ => rfl) dX7_account_33 (fun s1 k1 => ?_)
    refine g_getI C w fl_X7_253 s1 k1 (by decide) (fun _ _ _ => rfl) dX7_account_36 ?_
    exact g_iretP C w hr dX7_account_39 h
  have h := (if_neg hc0).symm.trans h
  by_cases hc1 : a1 = 1
  · have h := (if_pos hc1).symm.trans h
    refine lv_tableIn (off := 39) (tgt := 40) C.1 C.2.1 dX7_account_1 (by rw [hc1]; decide) (by rw [hc1]; decide) (by rw [hc1]; decide) (by decide) ?_
    refine lv_aload_n C.1 C.2.1 dX7_account_40 rfl (lv_at hl 0 rfl) ?_
    refine g_getR C w fl_X7_28 sth kth (by decide) kt_7_2 (fun _ _ _ => rfl) dX7_account_41 (fun s2 k2 => ?_)
    refine g_getI C w fl_X7_256 s2 k2 (by decide) (fun _ _ _ => rfl) dX7_account_44 ?_
    exact g_iretP C w hr dX7_account_47 h
  have h := (if_neg hc1).symm.trans h
  by_cases hc2 : a1 = 2
  · have h := (if_pos hc2).symm.trans h
    refine lv_tableIn (off := 47) (tgt := 48) C.1 C.2.1 dX7_account_1 (by rw [hc2]; decide) (by rw [hc2]; decide) (by rw [hc2]; decide) (by decide) ?_
    refine lv_aload_n C.1 C.2.1 dX7_account_48 rfl (lv_at hl 0 rfl) ?_
    refine g_getR C w fl_X7_28 sth kth (by decide) kt_7_2 (fun _ _ _ => rfl) dX7_account_49 (fun s3 k3 => ?_)
    obtain ⟨o4, ho4, h⟩ := g_bd h
    refine g_callV (n := 0) (As := []) (rest := []) C w (m_X5_ticksStalled s3 k3 ho4) (cl_5).1 s3 k3 (by decide) ml_X7_259 iy_X5_ticksStalled sy_X5_ticksStalled in_X5 cy_X5_ticksStalled ⟨rfl, by decide +kernel, by decide +kernel, by decide +kernel⟩ rfl ⟨Nat.le_of_ble_eq_true rfl, Nat.le_of_ble_eq_true rfl⟩ rfl (Nat.le_of_ble_eq_true rfl) hl.1 ⟨Nat.le_of_ble_eq_true rfl, Nat.le_of_ble_eq_true rfl⟩ dX7_account_52 (fun H locs w => ?_)
    exact g_iretP C w hr dX7_account_55 h
  have h := (if_neg hc2).symm.trans h
  by_cases hc3 : a1 = 3
  · have h := (if_pos hc3).symm.trans h
    refine lv_tableIn (off := 55) (tgt := 56) C.1 C.2.1 dX7_account_1 (by rw [hc3]; decide) (by rw [hc3]; decide) (by rw [hc3]; decide) (by decide) ?_
    refine lv_aload_n C.1 C.2.1 dX7_account_56 rfl (lv_at hl 0 rfl) ?_
    refine g_getR C w fl_X7_28 sth kth (by decide) kt_7_2 (fun _ _ _ => rfl) dX7_account_57 (fun s5 k5 => ?_)
    obtain ⟨o6, ho6, h⟩ := g_bd h
    refine g_callV (n := 0) (As := []) (rest := []) C w (m_X5_segmentsCome s5 k5 ho6) (cl_5).1 s5 k5 (by decide) ml_X7_262 iy_X5_segmentsCome sy_X5_segmentsCome in_X5 cy_X5_segmentsCome ⟨rfl, by decide +kernel, by decide +kernel, by decide +kernel⟩ rfl ⟨Nat.le_of_ble_eq_true rfl, Nat.le_of_ble_eq_true rfl⟩ rfl (Nat.le_of_ble_eq_true rfl) hl.1 ⟨Nat.le_of_ble_eq_true rfl, Nat.le_of_ble_eq_true rfl⟩ dX7_account_60 (fun H locs w => ?_)
    exact g_iretP C w hr dX7_account_63 h
  have h := (if_neg hc3).symm.trans h
  refine lv_tableOut (tgt := 64) C.1 C.2.1 dX7_account_1 (g_sw0_3 hc0 hc1 hc2 hc3) (by decide) ?_
  cases h

set_option maxHeartbeats 4000000 in
set_option maxRecDepth 100000 in
theorem m_X7_testPlayer {l : Launch} {D : va_G} {cA : Nat → ClassId} {B : BA} {S : Nat → Prop} {σ : GS} {th : Nat} {a1 : Int32} {o : GS} (sth : S th) (kth : kdG th = 7) (h0 : F_X7_testPlayer σ th a1 = some o) : MF l yX7_testPlayer cX7_testPlayer 2 none 0 0 D cA B S [.ref (B.1 th), .int a1] σ o none := by
  refine MF.of (by decide +kernel) (Nat.le_of_ble_eq_true rfl) ?_
  intro p e s m args below meth c C hr w ls hl
  have hl : lv_has ls 2 [(0, .ref (B.1 th)), (1, .int a1)] := hl
  have h := h0
  unfold F_X7_testPlayer at h
  refine lv_iload_n C.1 C.2.1 dX7_testPlayer_0 rfl (lv_at hl 1 rfl) ?_
  refine lv_if_lt (tgt := 15) C.1 C.2.1 dX7_testPlayer_1 (by decide) (fun hc => ?_) (fun hc => ?_)
  · have h := (if_pos hc).symm.trans h
    cases h
  · have h := (if_neg hc).symm.trans h
    refine lv_iload_n C.1 C.2.1 dX7_testPlayer_4 rfl (lv_at hl 1 rfl) ?_
    refine lv_aload_n C.1 C.2.1 dX7_testPlayer_5 rfl (lv_at hl 0 rfl) ?_
    refine g_getR C w fl_X7_19 sth kth (by decide) kt_7_1 (fun _ _ _ => rfl) dX7_testPlayer_6 (fun s1 k1 => ?_)
    refine g_getI C w fl_X7_90 s1 k1 (by decide) (fun _ _ _ => rfl) dX7_testPlayer_9 ?_
    refine lv_icmp_lt (tgt := 23) C.1 C.2.1 dX7_testPlayer_12 (by decide) (fun hc => ?_) (fun hc => ?_)
    · have h := (if_pos hc).symm.trans h
      exact g_vretV C w hr dX7_testPlayer_23 h
    · have h := (if_neg hc).symm.trans h
      cases h

set_option maxHeartbeats 4000000 in
set_option maxRecDepth 100000 in
theorem m_X7_seatOf {l : Launch} {D : va_G} {cA : Nat → ClassId} {B : BA} {S : Nat → Prop} {σ : GS} {th : Nat} {a1 : Int32} {o : Nat} (sth : S th) (kth : kdG th = 7) (h0 : F_X7_seatOf σ th a1 = some o) : MF l yX7_seatOf cX7_seatOf 2 (some (.object "SharedLink$Player")) 1 21 D cA B S [.ref (B.1 th), .int a1] σ σ (some (.ref (B.1 o))) := by
  refine MF.of (by decide +kernel) (Nat.le_of_ble_eq_true rfl) ?_
  intro p e s m args below meth c C hr w ls hl
  have hl : lv_has ls 2 [(0, .ref (B.1 th)), (1, .int a1)] := hl
  have h := h0
  unfold F_X7_seatOf at h
  refine lv_aload_n C.1 C.2.1 dX7_seatOf_0 rfl (lv_at hl 0 rfl) ?_
  refine lv_iload_n C.1 C.2.1 dX7_seatOf_1 rfl (lv_at hl 1 rfl) ?_
  obtain ⟨o1, ho1, h⟩ := g_bd h
  refine g_callV (n := 1) (As := [.int a1]) (rest := []) C w (m_X7_testPlayer sth kth ho1) (cl_7).1 sth kth (by decide) ml_X7_222 iy_X7_testPlayer sy_X7_testPlayer in_X7 cy_X7_testPlayer ⟨rfl, by decide +kernel, by decide +kernel, by decide +kernel⟩ rfl ⟨Nat.le_of_ble_eq_true rfl, Nat.le_of_ble_eq_true rfl⟩ rfl (Nat.le_of_ble_eq_true rfl) hl.1 ⟨Nat.le_of_ble_eq_true rfl, Nat.le_of_ble_eq_true rfl⟩ dX7_seatOf_2 (fun H locs w => ?_)
  have e1 : σ = o1 := by
    unfold F_X7_testPlayer at ho1
    repeat' split at ho1
    all_goals first | exact Option.some.inj ho1 | cases ho1
  subst e1
  refine lv_aload_n C.1 C.2.1 dX7_seatOf_5 rfl (lv_at hl 0 rfl) ?_
  refine g_getR C w fl_X7_28 sth kth (by decide) kt_7_2 (fun _ _ _ => rfl) dX7_seatOf_6 (fun s2 k2 => ?_)
  refine lv_iload_n C.1 C.2.1 dX7_seatOf_9 rfl (lv_at hl 1 rfl) ?_
  obtain ⟨o3, ho3, h⟩ := g_bd h
  refine g_callV (n := 1) (As := [.int a1]) (rest := []) C w (m_X5_seat s2 k2 ho3) (cl_5).1 s2 k2 (by decide) ml_X7_219 iy_X5_seat sy_X5_seat in_X5 cy_X5_seat ⟨rfl, by decide +kernel, by decide +kernel, by decide +kernel⟩ rfl ⟨Nat.le_of_ble_eq_true rfl, Nat.le_of_ble_eq_true rfl⟩ rfl (Nat.le_of_ble_eq_true rfl) hl.1 ⟨Nat.le_of_ble_eq_true rfl, Nat.le_of_ble_eq_true rfl⟩ dX7_seatOf_10 (fun H locs w => ?_)
  have ⟨s4, k4⟩ := r_X5_seat w.2.1 s2 k2 ho3
  exact g_aretP C w hr (Or.inl ⟨_, rfl⟩) dX7_seatOf_13 h

set_option maxHeartbeats 4000000 in
set_option maxRecDepth 100000 in
theorem m_X7_copyRow {l : Launch} {D : va_G} {cA : Nat → ClassId} {B : BA} {S : Nat → Prop} {σ : GS} {a1 : Nat} {a2 : Nat} {o : GS} (sa1 : S a1) (ka1 : kdG a1 = 11) (sa2 : S a2) (ka2 : kdG a2 = 11) (h0 : F_X7_copyRow σ a1 a2 = some o) : MF l yX7_copyRow cX7_copyRow 3 none 0 0 D cA B S [.ref (B.1 a1), .ref (B.1 a2)] σ o none := by
  refine MF.of (by decide +kernel) (Nat.le_of_ble_eq_true rfl) ?_
  intro p e s m args below meth c C hr w ls hl
  have hl : lv_has ls 3 [(0, .ref (B.1 a1)), (1, .ref (B.1 a2))] := hl
  have B_2 : ∀ (n2 : Nat) (σ : GS) (v2 : Int32) (H : Heap) (locs : List Loc) (ls : Array Slot), L_X7_copyRow_2 a1 a2 n2 σ v2 = some o → WS D cA B S (AB B S) σ s H locs → lv_has ls 3 [(0, .ref (B.1 a1)), (1, .ref (B.1 a2)), (2, .int v2)] → W p l e (rmF 0 0) s m args below meth c H locs 0 0 (MQ below (QF D cA B S o none) args s 0 0 (AB B S)) (F0 m 2 ls []) := by
    intro n2
    induction n2 with
    | zero => intro σ v2 H locs ls h; exact nomatch (show (none : Option (GS)) = some o from h)
    | succ n2 ih2 =>
      intro σ v2 H locs ls h  w hl
      unfold L_X7_copyRow_2 at h
      refine lv_iload_n C.1 C.2.1 dX7_copyRow_2 rfl (lv_at hl 2 rfl) ?_
      refine lv_aload_n C.1 C.2.1 dX7_copyRow_3 rfl (lv_at hl 0 rfl) ?_
      refine g_alen C w sa1 ka1 (by decide) (by decide) dX7_copyRow_4 ?_
      refine lv_icmp_ge (tgt := 26) C.1 C.2.1 dX7_copyRow_5 (by decide) (fun hc => ?_) (fun hc => ?_)
      · have h := (if_pos hc).symm.trans h
        exact g_vretV C w hr dX7_copyRow_26 h
      · have h := (if_neg hc).symm.trans h
        refine lv_iload_n C.1 C.2.1 dX7_copyRow_8 rfl (lv_at hl 2 rfl) ?_
        refine lv_aload_n C.1 C.2.1 dX7_copyRow_9 rfl (lv_at hl 1 rfl) ?_
        refine g_alen C w sa2 ka2 (by decide) (by decide) dX7_copyRow_10 ?_
        refine lv_icmp_ge (tgt := 26) C.1 C.2.1 dX7_copyRow_11 (by decide) (fun hc => ?_) (fun hc => ?_)
        · have h := (if_pos hc).symm.trans h
          exact g_vretV C w hr dX7_copyRow_26 h
        · have h := (if_neg hc).symm.trans h
          refine lv_aload_n C.1 C.2.1 dX7_copyRow_14 rfl (lv_at hl 1 rfl) ?_
          refine lv_iload_n C.1 C.2.1 dX7_copyRow_15 rfl (lv_at hl 2 rfl) ?_
          refine lv_aload_n C.1 C.2.1 dX7_copyRow_16 rfl (lv_at hl 0 rfl) ?_
          refine lv_iload_n C.1 C.2.1 dX7_copyRow_17 rfl (lv_at hl 2 rfl) ?_
          obtain ⟨hb, h⟩ := g_ob h
          refine g_iald C w sa1 ka1 hb dX7_copyRow_18 ?_
          obtain ⟨hb, h⟩ := g_ob h
          refine g_iast C w sa2 ka2 hb dX7_copyRow_19 (fun H locs w => ?_)
          refine lv_iinc (k := 2) (v := v2 + 1) (lv' := [(2, .int (v2 + 1)), (0, .ref (B.1 a1)), (1, .ref (B.1 a2))]) C.1 C.2.1 dX7_copyRow_20 hl rfl rfl (by decide) rfl (fun ls hl => ?_)
          refine lv_goto (tgt := 2) C.1 C.2.1 dX7_copyRow_23 (by decide) ?_
          exact ih2 _ _ _ _ _ h w (show lv_has ls 3 [(0, .ref (B.1 a1)), (1, .ref (B.1 a2)), (2, .int (v2 + 1))] from lv_sub hl [1, 2, 0] rfl)
  have h := h0
  unfold F_X7_copyRow at h
  refine lv_iconst (v := 0) C.1 C.2.1 dX7_copyRow_0 (by decide) ?_
  refine lv_istore_n (lv' := [(2, .int 0), (0, .ref (B.1 a1)), (1, .ref (B.1 a2))]) C.1 C.2.1 dX7_copyRow_1 rfl hl (by decide) rfl (fun ls hl => ?_)
  exact B_2 _ _ _ _ _ _ h w (show lv_has ls 3 [(0, .ref (B.1 a1)), (1, .ref (B.1 a2)), (2, .int 0)] from lv_sub hl [1, 2, 0] rfl)

set_option maxHeartbeats 4000000 in
set_option maxRecDepth 100000 in
theorem m_X7_clearRow {l : Launch} {D : va_G} {cA : Nat → ClassId} {B : BA} {S : Nat → Prop} {σ : GS} {a1 : Nat} {o : GS} (sa1 : S a1) (ka1 : kdG a1 = 11) (h0 : F_X7_clearRow σ a1 = some o) : MF l yX7_clearRow cX7_clearRow 2 none 0 0 D cA B S [.ref (B.1 a1)] σ o none := by
  refine MF.of (by decide +kernel) (Nat.le_of_ble_eq_true rfl) ?_
  intro p e s m args below meth c C hr w ls hl
  have hl : lv_has ls 2 [(0, .ref (B.1 a1))] := hl
  have B_2 : ∀ (n2 : Nat) (σ : GS) (v1 : Int32) (H : Heap) (locs : List Loc) (ls : Array Slot), L_X7_clearRow_2 a1 n2 σ v1 = some o → WS D cA B S (AB B S) σ s H locs → lv_has ls 2 [(0, .ref (B.1 a1)), (1, .int v1)] → W p l e (rmF 0 0) s m args below meth c H locs 0 0 (MQ below (QF D cA B S o none) args s 0 0 (AB B S)) (F0 m 2 ls []) := by
    intro n2
    induction n2 with
    | zero => intro σ v1 H locs ls h; exact nomatch (show (none : Option (GS)) = some o from h)
    | succ n2 ih2 =>
      intro σ v1 H locs ls h  w hl
      unfold L_X7_clearRow_2 at h
      refine lv_iload_n C.1 C.2.1 dX7_clearRow_2 rfl (lv_at hl 1 rfl) ?_
      refine lv_aload_n C.1 C.2.1 dX7_clearRow_3 rfl (lv_at hl 0 rfl) ?_
      refine g_alen C w sa1 ka1 (by decide) (by decide) dX7_clearRow_4 ?_
      refine lv_icmp_ge (tgt := 18) C.1 C.2.1 dX7_clearRow_5 (by decide) (fun hc => ?_) (fun hc => ?_)
      · have h := (if_pos hc).symm.trans h
        exact g_vretV C w hr dX7_clearRow_18 h
      · have h := (if_neg hc).symm.trans h
        refine lv_aload_n C.1 C.2.1 dX7_clearRow_8 rfl (lv_at hl 0 rfl) ?_
        refine lv_iload_n C.1 C.2.1 dX7_clearRow_9 rfl (lv_at hl 1 rfl) ?_
        refine lv_iconst (v := 0) C.1 C.2.1 dX7_clearRow_10 (by decide) ?_
        obtain ⟨hb, h⟩ := g_ob h
        refine g_iast C w sa1 ka1 hb dX7_clearRow_11 (fun H locs w => ?_)
        refine lv_iinc (k := 1) (v := v1 + 1) (lv' := [(1, .int (v1 + 1)), (0, .ref (B.1 a1))]) C.1 C.2.1 dX7_clearRow_12 hl rfl rfl (by decide) rfl (fun ls hl => ?_)
        refine lv_goto (tgt := 2) C.1 C.2.1 dX7_clearRow_15 (by decide) ?_
        exact ih2 _ _ _ _ _ h w (show lv_has ls 2 [(0, .ref (B.1 a1)), (1, .int (v1 + 1))] from lv_sub hl [1, 0] rfl)
  have h := h0
  unfold F_X7_clearRow at h
  refine lv_iconst (v := 0) C.1 C.2.1 dX7_clearRow_0 (by decide) ?_
  refine lv_istore_n (lv' := [(1, .int 0), (0, .ref (B.1 a1))]) C.1 C.2.1 dX7_clearRow_1 rfl hl (by decide) rfl (fun ls hl => ?_)
  exact B_2 _ _ _ _ _ _ h w (show lv_has ls 2 [(0, .ref (B.1 a1)), (1, .int 0)] from lv_sub hl [1, 0] rfl)

set_option maxHeartbeats 4000000 in
set_option maxRecDepth 100000 in
theorem m_X8_rateAt {l : Launch} {D : va_G} {cA : Nat → ClassId} {B : BA} {S : Nat → Prop} {σ : GS} {th : Nat} {a1 : Int32} {o : Int32} (sth : S th) (kth : kdG th = 8) (h0 : F_X8_rateAt σ th a1 = some o) : MF l yX8_rateAt cX8_rateAt 5 (some .int) 0 0 D cA B S [.ref (B.1 th), .int a1] σ σ (some (.int o)) := by
  refine MF.of (by decide +kernel) (Nat.le_of_ble_eq_true rfl) ?_
  intro p e s m args below meth c C hr w ls hl
  have hl : lv_has ls 5 [(0, .ref (B.1 th)), (1, .int a1)] := hl
  have B_58 : ∀ (n58 : Nat) (v2 : Int32) (v4 : Int32) (H : Heap) (locs : List Loc) (ls : Array Slot), L_X8_rateAt_58 th a1 n58 σ v2 v4 = some o → WS D cA B S (AB B S) σ s H locs → lv_has ls 5 [(0, .ref (B.1 th)), (2, .int v2), (4, .int v4)] → W p l e (rmF 0 0) s m args below meth c H locs 0 0 (MQ below (QF D cA B S σ (some (.int o))) args s 0 0 (AB B S)) (F0 m 58 ls []) := by
    intro n58
    induction n58 with
    | zero => intro  v2 v4 H locs ls h; exact nomatch (show (none : Option (Int32)) = some o from h)
    | succ n58 ih58 =>
      intro  v2 v4 H locs ls h  w hl
      unfold L_X8_rateAt_58 at h
      refine lv_iload C.1 C.2.1 dX8_rateAt_58 (lv_at hl 2 rfl) ?_
      refine lv_aload_n C.1 C.2.1 dX8_rateAt_60 rfl (lv_at hl 0 rfl) ?_
      refine g_getI C w fl_X8_51 sth kth (by decide) (fun _ _ _ => rfl) dX8_rateAt_61 ?_
      refine lv_icmp_ge (tgt := 102) C.1 C.2.1 dX8_rateAt_64 (by decide) (fun hc => ?_) (fun hc => ?_)
      · have h := (if_pos hc).symm.trans h
        refine lv_bipush (v := (-9)) C.1 C.2.1 dX8_rateAt_102 (by decide) ?_
        exact g_iretP C w hr dX8_rateAt_104 h
      · have h := (if_neg hc).symm.trans h
        refine lv_iload_n C.1 C.2.1 dX8_rateAt_67 rfl (lv_at hl 1 rfl) ?_
        refine lv_aload_n C.1 C.2.1 dX8_rateAt_68 rfl (lv_at hl 0 rfl) ?_
        refine g_getR C w fl_X8_13 sth kth (by decide) kt_8_9 (fun _ _ _ => rfl) dX8_rateAt_69 (fun s2 k2 => ?_)
        refine lv_iload C.1 C.2.1 dX8_rateAt_72 (lv_at hl 2 rfl) ?_
        obtain ⟨hb, h⟩ := g_ob h
        refine g_iald C w s2 k2 hb dX8_rateAt_74 ?_
        refine lv_icmp_ge (tgt := 86) C.1 C.2.1 dX8_rateAt_75 (by decide) (fun hc => ?_) (fun hc => ?_)
        · have h := (if_pos hc).symm.trans h
          refine lv_iload_n C.1 C.2.1 dX8_rateAt_86 rfl (lv_at hl 1 rfl) ?_
          refine lv_aload_n C.1 C.2.1 dX8_rateAt_87 rfl (lv_at hl 0 rfl) ?_
          refine g_getR C w fl_X8_13 sth kth (by decide) kt_8_9 (fun _ _ _ => rfl) dX8_rateAt_88 (fun s3 k3 => ?_)
          refine lv_iload C.1 C.2.1 dX8_rateAt_91 (lv_at hl 2 rfl) ?_
          obtain ⟨hb, h⟩ := g_ob h
          refine g_iald C w s3 k3 hb dX8_rateAt_93 ?_
          refine lv_isub C.1 C.2.1 dX8_rateAt_94 ?_
          refine lv_istore_n (lv' := [(2, .int (v2 - (gI σ (rfG th 9) v4.toNatClampNeg))), (0, .ref (B.1 th)), (4, .int v4)]) C.1 C.2.1 dX8_rateAt_95 rfl hl (by decide) rfl (fun ls hl => ?_)
          refine lv_iinc (k := 2) (v := v4 + 1) (lv' := [(4, .int (v4 + 1)), (2, .int (v2 - (gI σ (rfG th 9) v4.toNatClampNeg))), (0, .ref (B.1 th))]) C.1 C.2.1 dX8_rateAt_96 hl rfl rfl (by decide) rfl (fun ls hl => ?_)
          refine lv_goto (tgt := 58) C.1 C.2.1 dX8_rateAt_99 (by decide) ?_
          exact ih58 _ _ _ _ _ h w (show lv_has ls 5 [(0, .ref (B.1 th)), (2, .int (v2 - (gI σ (rfG th 9) v4.toNatClampNeg))), (4, .int (v4 + 1))] from lv_sub hl [2, 1, 0] rfl)
        · have h := (if_neg hc).symm.trans h
          refine lv_aload_n C.1 C.2.1 dX8_rateAt_78 rfl (lv_at hl 0 rfl) ?_
          refine g_getR C w fl_X8_17 sth kth (by decide) kt_8_10 (fun _ _ _ => rfl) dX8_rateAt_79 (fun s4 k4 => ?_)
          refine lv_iload C.1 C.2.1 dX8_rateAt_82 (lv_at hl 2 rfl) ?_
          obtain ⟨hb, h⟩ := g_ob h
          refine g_iald C w s4 k4 hb dX8_rateAt_84 ?_
          exact g_iretP C w hr dX8_rateAt_85 h
  have B_19 : ∀ (n19 : Nat) (v3 : Int32) (v4 : Int32) (H : Heap) (locs : List Loc) (ls : Array Slot), L_X8_rateAt_19 th a1 n19 σ v3 v4 = some o → WS D cA B S (AB B S) σ s H locs → lv_has ls 5 [(0, .ref (B.1 th)), (2, .int a1), (3, .int v3), (4, .int v4)] → W p l e (rmF 0 0) s m args below meth c H locs 0 0 (MQ below (QF D cA B S σ (some (.int o))) args s 0 0 (AB B S)) (F0 m 19 ls []) := by
    intro n19
    induction n19 with
    | zero => intro  v3 v4 H locs ls h; exact nomatch (show (none : Option (Int32)) = some o from h)
    | succ n19 ih19 =>
      intro  v3 v4 H locs ls h  w hl
      unfold L_X8_rateAt_19 at h
      refine lv_iload C.1 C.2.1 dX8_rateAt_19 (lv_at hl 3 rfl) ?_
      refine lv_aload_n C.1 C.2.1 dX8_rateAt_21 rfl (lv_at hl 0 rfl) ?_
      refine g_getI C w fl_X8_51 sth kth (by decide) (fun _ _ _ => rfl) dX8_rateAt_22 ?_
      refine lv_icmp_ge (tgt := 44) C.1 C.2.1 dX8_rateAt_25 (by decide) (fun hc => ?_) (fun hc => ?_)
      · have h := (if_pos hc).symm.trans h
        refine lv_iload_n C.1 C.2.1 dX8_rateAt_44 rfl (lv_at hl 2 rfl) ?_
        refine lv_if_ne (tgt := 51) C.1 C.2.1 dX8_rateAt_45 (by decide) (fun hc => ?_) (fun hc => ?_)
        · have h := (if_neg hc).symm.trans h
          refine lv_iload_n C.1 C.2.1 dX8_rateAt_51 rfl (lv_at hl 1 rfl) ?_
          refine lv_iload_n C.1 C.2.1 dX8_rateAt_52 rfl (lv_at hl 2 rfl) ?_
          obtain ⟨hb, h⟩ := g_ob h
          refine lv_irem C.1 C.2.1 dX8_rateAt_53 hb ?_
          refine lv_istore_n (lv' := [(2, .int (a1 - a1 / v3 * v3)), (0, .ref (B.1 th)), (3, .int v3), (4, .int v4)]) C.1 C.2.1 dX8_rateAt_54 rfl hl (by decide) rfl (fun ls hl => ?_)
          refine lv_iconst (v := 0) C.1 C.2.1 dX8_rateAt_55 (by decide) ?_
          refine lv_istore (lv' := [(4, .int 0), (2, .int (a1 - a1 / v3 * v3)), (0, .ref (B.1 th)), (3, .int v3)]) C.1 C.2.1 dX8_rateAt_56 hl (by decide) rfl (fun ls hl => ?_)
          exact B_58 _ _ _ _ _ _ h w (show lv_has ls 5 [(0, .ref (B.1 th)), (2, .int (a1 - a1 / v3 * v3)), (4, .int 0)] from lv_sub hl [2, 1, 0] rfl)
        · have h := (if_pos hc).symm.trans h
          refine lv_bipush (v := 100) C.1 C.2.1 dX8_rateAt_48 (by decide) ?_
          exact g_iretP C w hr dX8_rateAt_50 h
      · have h := (if_neg hc).symm.trans h
        refine lv_iload_n C.1 C.2.1 dX8_rateAt_28 rfl (lv_at hl 2 rfl) ?_
        refine lv_aload_n C.1 C.2.1 dX8_rateAt_29 rfl (lv_at hl 0 rfl) ?_
        refine g_getR C w fl_X8_13 sth kth (by decide) kt_8_9 (fun _ _ _ => rfl) dX8_rateAt_30 (fun s1 k1 => ?_)
        refine lv_iload C.1 C.2.1 dX8_rateAt_33 (lv_at hl 3 rfl) ?_
        obtain ⟨hb, h⟩ := g_ob h
        refine g_iald C w s1 k1 hb dX8_rateAt_35 ?_
        refine lv_iadd C.1 C.2.1 dX8_rateAt_36 ?_
        refine lv_istore_n (lv' := [(3, .int (v3 + (gI σ (rfG th 9) v4.toNatClampNeg))), (0, .ref (B.1 th)), (2, .int a1), (4, .int v4)]) C.1 C.2.1 dX8_rateAt_37 rfl hl (by decide) rfl (fun ls hl => ?_)
        refine lv_iinc (k := 3) (v := v4 + 1) (lv' := [(4, .int (v4 + 1)), (3, .int (v3 + (gI σ (rfG th 9) v4.toNatClampNeg))), (0, .ref (B.1 th)), (2, .int a1)]) C.1 C.2.1 dX8_rateAt_38 hl rfl rfl (by decide) rfl (fun ls hl => ?_)
        refine lv_goto (tgt := 19) C.1 C.2.1 dX8_rateAt_41 (by decide) ?_
        exact ih19 _ _ _ _ _ h w (show lv_has ls 5 [(0, .ref (B.1 th)), (2, .int a1), (3, .int (v3 + (gI σ (rfG th 9) v4.toNatClampNeg))), (4, .int (v4 + 1))] from lv_sub hl [2, 3, 1, 0] rfl)
  have h := h0
  unfold F_X8_rateAt at h
  refine lv_aload_n C.1 C.2.1 dX8_rateAt_0 rfl (lv_at hl 0 rfl) ?_
  refine g_getI C w fl_X8_7 sth kth (by decide) (fun _ _ _ => rfl) dX8_rateAt_1 ?_
  refine lv_if_lt (tgt := 12) C.1 C.2.1 dX8_rateAt_4 (by decide) (fun hc => ?_) (fun hc => ?_)
  · have h := (if_pos hc).symm.trans h
    refine lv_iload_n C.1 C.2.1 dX8_rateAt_12 rfl (lv_at hl 1 rfl) ?_
    refine lv_istore_n (lv' := [(2, .int a1), (0, .ref (B.1 th)), (1, .int a1)]) C.1 C.2.1 dX8_rateAt_13 rfl hl (by decide) rfl (fun ls hl => ?_)
    refine lv_iconst (v := 0) C.1 C.2.1 dX8_rateAt_14 (by decide) ?_
    refine lv_istore_n (lv' := [(3, .int 0), (2, .int a1), (0, .ref (B.1 th)), (1, .int a1)]) C.1 C.2.1 dX8_rateAt_15 rfl hl (by decide) rfl (fun ls hl => ?_)
    refine lv_iconst (v := 0) C.1 C.2.1 dX8_rateAt_16 (by decide) ?_
    refine lv_istore (lv' := [(4, .int 0), (3, .int 0), (2, .int a1), (0, .ref (B.1 th)), (1, .int a1)]) C.1 C.2.1 dX8_rateAt_17 hl (by decide) rfl (fun ls hl => ?_)
    exact B_19 _ _ _ _ _ _ h w (show lv_has ls 5 [(0, .ref (B.1 th)), (2, .int a1), (3, .int 0), (4, .int 0)] from lv_sub hl [3, 2, 1, 0] rfl)
  · have h := (if_neg hc).symm.trans h
    refine lv_aload_n C.1 C.2.1 dX8_rateAt_7 rfl (lv_at hl 0 rfl) ?_
    refine g_getI C w fl_X8_7 sth kth (by decide) (fun _ _ _ => rfl) dX8_rateAt_8 ?_
    exact g_iretP C w hr dX8_rateAt_11 h

set_option maxHeartbeats 4000000 in
set_option maxRecDepth 100000 in
theorem m_X8_sizeOf {l : Launch} {D : va_G} {cA : Nat → ClassId} {B : BA} {S : Nat → Prop} {σ : GS} {th : Nat} {a1 : Nat} {a2 : Int32} {a3 : Int32} {o : Int32} (sth : S th) (kth : kdG th = 8) (sa1 : S a1) (ka1 : kdG a1 = 9) (h0 : F_X8_sizeOf σ th a1 a2 a3 = some o) : MF l yX8_sizeOf cX8_sizeOf 4 (some .int) 1 21 D cA B S [.ref (B.1 th), .ref (B.1 a1), .int a2, .int a3] σ σ (some (.int o)) := by
  refine MF.of (by decide +kernel) (Nat.le_of_ble_eq_true rfl) ?_
  intro p e s m args below meth c C hr w ls hl
  have hl : lv_has ls 4 [(0, .ref (B.1 th)), (1, .ref (B.1 a1)), (2, .int a2), (3, .int a3)] := hl
  have h := h0
  unfold F_X8_sizeOf at h
  refine lv_iconst (v := 1) C.1 C.2.1 dX8_sizeOf_0 (by decide) ?_
  refine lv_aload_n C.1 C.2.1 dX8_sizeOf_1 rfl (lv_at hl 1 rfl) ?_
  refine g_getR C w fl_X8_70 sa1 ka1 (by decide) kt_9_18 (fun _ _ _ => rfl) dX8_sizeOf_2 (fun s1 k1 => ?_)
  refine lv_iload_n C.1 C.2.1 dX8_sizeOf_5 rfl (lv_at hl 3 rfl) ?_
  obtain ⟨hb, h⟩ := g_ob h
  refine g_iald C w s1 k1 hb dX8_sizeOf_6 ?_
  refine lv_aload_n C.1 C.2.1 dX8_sizeOf_7 rfl (lv_at hl 0 rfl) ?_
  refine g_getI C w fl_X8_54 sth kth (by decide) (fun _ _ _ => rfl) dX8_sizeOf_8 ?_
  refine lv_if_ne (tgt := 19) C.1 C.2.1 dX8_sizeOf_11 (by decide) (fun hc => ?_) (fun hc => ?_)
  · have h := (if_neg hc).symm.trans h
    refine lv_aload_n C.1 C.2.1 dX8_sizeOf_19 rfl (lv_at hl 0 rfl) ?_
    refine g_getR C w fl_X8_20 sth kth (by decide) kt_8_11 (fun _ _ _ => rfl) dX8_sizeOf_20 (fun s2 k2 => ?_)
    refine lv_iload_n C.1 C.2.1 dX8_sizeOf_23 rfl (lv_at hl 2 rfl) ?_
    refine lv_aload_n C.1 C.2.1 dX8_sizeOf_24 rfl (lv_at hl 0 rfl) ?_
    refine g_getI C w fl_X8_54 sth kth (by decide) (fun _ _ _ => rfl) dX8_sizeOf_25 ?_
    obtain ⟨hb, h⟩ := g_ob h
    refine lv_irem C.1 C.2.1 dX8_sizeOf_28 hb ?_
    obtain ⟨hb, h⟩ := g_ob h
    refine g_iald C w s2 k2 hb dX8_sizeOf_29 ?_
    refine lv_imul C.1 C.2.1 dX8_sizeOf_30 ?_
    refine lv_bipush (v := 100) C.1 C.2.1 dX8_sizeOf_31 (by decide) ?_
    refine lv_idiv C.1 C.2.1 dX8_sizeOf_33 (by decide) ?_
    refine va_mmax C.1 C.2.1 (C.2.2.1.trans hl.1.symm) C.2.2.2.1 (C.2.2.2.2.1 _ ml_X8_73) (C.2.2.2.2.1 _ st_max) (C.2.2.2.2.1 _ in_Math) (C.2.2.2.2.1 _ cy_max) (Nat.le_of_ble_eq_true rfl) (Nat.le_of_ble_eq_true rfl) (Nat.zero_le _) (Nat.zero_le _) dX8_sizeOf_34 ?_
    exact g_iretP C w hr dX8_sizeOf_37 h
  · have h := (if_pos hc).symm.trans h
    refine lv_bipush (v := 100) C.1 C.2.1 dX8_sizeOf_14 (by decide) ?_
    refine lv_goto (tgt := 30) C.1 C.2.1 dX8_sizeOf_16 (by decide) ?_
    refine lv_imul C.1 C.2.1 dX8_sizeOf_30 ?_
    refine lv_bipush (v := 100) C.1 C.2.1 dX8_sizeOf_31 (by decide) ?_
    refine lv_idiv C.1 C.2.1 dX8_sizeOf_33 (by decide) ?_
    refine va_mmax C.1 C.2.1 (C.2.2.1.trans hl.1.symm) C.2.2.2.1 (C.2.2.2.2.1 _ ml_X8_73) (C.2.2.2.2.1 _ st_max) (C.2.2.2.2.1 _ in_Math) (C.2.2.2.2.1 _ cy_max) (Nat.le_of_ble_eq_true rfl) (Nat.le_of_ble_eq_true rfl) (Nat.zero_le _) (Nat.zero_le _) dX8_sizeOf_34 ?_
    exact g_iretP C w hr dX8_sizeOf_37 h

set_option maxHeartbeats 4000000 in
set_option maxRecDepth 100000 in
theorem m_X8_ones {l : Launch} {D : va_G} {cA : Nat → ClassId} {B : BA} {S : Nat → Prop} {σ : GS} {th : Nat} {o : Int32} (sth : S th) (kth : kdG th = 8) (h0 : F_X8_ones σ th = some o) : MF l yX8_ones cX8_ones 1 (some .int) 0 0 D cA B S [.ref (B.1 th)] σ σ (some (.int o)) := by
  refine MF.of (by decide +kernel) (Nat.le_of_ble_eq_true rfl) ?_
  intro p e s m args below meth c C hr w ls hl
  have hl : lv_has ls 1 [(0, .ref (B.1 th))] := hl
  have h := h0
  unfold F_X8_ones at h
  refine lv_aload_n C.1 C.2.1 dX8_ones_0 rfl (lv_at hl 0 rfl) ?_
  refine g_getR C w fl_X8_26 sth kth (by decide) kt_8_13 (fun _ _ _ => rfl) dX8_ones_1 (fun s1 k1 => ?_)
  refine lv_iconst (v := 0) C.1 C.2.1 dX8_ones_4 (by decide) ?_
  obtain ⟨hb, h⟩ := g_ob h
  refine g_iald C w s1 k1 hb dX8_ones_5 ?_
  refine lv_aload_n C.1 C.2.1 dX8_ones_6 rfl (lv_at hl 0 rfl) ?_
  refine g_getR C w fl_X8_26 sth kth (by decide) kt_8_13 (fun _ _ _ => rfl) dX8_ones_7 (fun s2 k2 => ?_)
  refine lv_iconst (v := 1) C.1 C.2.1 dX8_ones_10 (by decide) ?_
  obtain ⟨hb, h⟩ := g_ob h
  refine g_iald C w s2 k2 hb dX8_ones_11 ?_
  refine lv_iadd C.1 C.2.1 dX8_ones_12 ?_
  refine lv_aload_n C.1 C.2.1 dX8_ones_13 rfl (lv_at hl 0 rfl) ?_
  refine g_getR C w fl_X8_26 sth kth (by decide) kt_8_13 (fun _ _ _ => rfl) dX8_ones_14 (fun s3 k3 => ?_)
  refine lv_iconst (v := 2) C.1 C.2.1 dX8_ones_17 (by decide) ?_
  obtain ⟨hb, h⟩ := g_ob h
  refine g_iald C w s3 k3 hb dX8_ones_18 ?_
  refine lv_iadd C.1 C.2.1 dX8_ones_19 ?_
  refine lv_aload_n C.1 C.2.1 dX8_ones_20 rfl (lv_at hl 0 rfl) ?_
  refine g_getR C w fl_X8_26 sth kth (by decide) kt_8_13 (fun _ _ _ => rfl) dX8_ones_21 (fun s4 k4 => ?_)
  refine lv_iconst (v := 3) C.1 C.2.1 dX8_ones_24 (by decide) ?_
  obtain ⟨hb, h⟩ := g_ob h
  refine g_iald C w s4 k4 hb dX8_ones_25 ?_
  refine lv_iadd C.1 C.2.1 dX8_ones_26 ?_
  exact g_iretP C w hr dX8_ones_27 h

set_option maxHeartbeats 4000000 in
set_option maxRecDepth 100000 in
theorem m_X8_wants {l : Launch} {D : va_G} {cA : Nat → ClassId} {B : BA} {S : Nat → Prop} {σ : GS} {th : Nat} {a1 : Int32} {o : Int32} (sth : S th) (kth : kdG th = 8) (h0 : F_X8_wants σ th a1 = some o) : MF l yX8_wants cX8_wants 2 (some .boolean) 0 0 D cA B S [.ref (B.1 th), .int a1] σ σ (some (.int o)) := by
  refine MF.of (by decide +kernel) (Nat.le_of_ble_eq_true rfl) ?_
  intro p e s m args below meth c C hr w ls hl
  have hl : lv_has ls 2 [(0, .ref (B.1 th)), (1, .int a1)] := hl
  have h := h0
  unfold F_X8_wants at h
  refine lv_aload_n C.1 C.2.1 dX8_wants_0 rfl (lv_at hl 0 rfl) ?_
  refine g_getR C w fl_X8_32 sth kth (by decide) kt_8_14 (fun _ _ _ => rfl) dX8_wants_1 (fun s1 k1 => ?_)
  refine lv_iload_n C.1 C.2.1 dX8_wants_4 rfl (lv_at hl 1 rfl) ?_
  obtain ⟨hb, h⟩ := g_ob h
  refine g_aald C w s1 k1 (by decide) (by decide) rfl rfl (fun _ _ _ _ => rfl) kr_16 hb dX8_wants_5 (fun s2 k2 => ?_)
  refine g_getI C w fl_X8_102 s2 k2 (by decide) (fun _ _ _ => rfl) dX8_wants_6 ?_
  refine lv_iconst (v := 4) C.1 C.2.1 dX8_wants_9 (by decide) ?_
  refine lv_icmp_eq (tgt := 41) C.1 C.2.1 dX8_wants_10 (by decide) (fun hc => ?_) (fun hc => ?_)
  · have h := (if_pos hc).symm.trans h
    refine lv_iconst (v := 0) C.1 C.2.1 dX8_wants_41 (by decide) ?_
    exact g_zretP C w hr (by decide) dX8_wants_42 h
  · have h := (if_neg hc).symm.trans h
    refine lv_aload_n C.1 C.2.1 dX8_wants_13 rfl (lv_at hl 0 rfl) ?_
    refine g_getR C w fl_X8_32 sth kth (by decide) kt_8_14 (fun _ _ _ => rfl) dX8_wants_14 (fun s3 k3 => ?_)
    refine lv_iload_n C.1 C.2.1 dX8_wants_17 rfl (lv_at hl 1 rfl) ?_
    obtain ⟨hb, h⟩ := g_ob h
    refine g_aald C w s3 k3 (by decide) (by decide) rfl rfl (fun _ _ _ _ => rfl) kr_16 hb dX8_wants_18 (fun s4 k4 => ?_)
    refine g_getI C w fl_X8_108 s4 k4 (by decide) (fun _ _ _ => rfl) dX8_wants_19 ?_
    refine lv_if_lt (tgt := 41) C.1 C.2.1 dX8_wants_22 (by decide) (fun hc => ?_) (fun hc => ?_)
    · have h := (if_pos hc).symm.trans h
      refine lv_iconst (v := 0) C.1 C.2.1 dX8_wants_41 (by decide) ?_
      exact g_zretP C w hr (by decide) dX8_wants_42 h
    · have h := (if_neg hc).symm.trans h
      refine lv_aload_n C.1 C.2.1 dX8_wants_25 rfl (lv_at hl 0 rfl) ?_
      refine g_getR C w fl_X8_32 sth kth (by decide) kt_8_14 (fun _ _ _ => rfl) dX8_wants_26 (fun s5 k5 => ?_)
      refine lv_iload_n C.1 C.2.1 dX8_wants_29 rfl (lv_at hl 1 rfl) ?_
      obtain ⟨hb, h⟩ := g_ob h
      refine g_aald C w s5 k5 (by decide) (by decide) rfl rfl (fun _ _ _ _ => rfl) kr_16 hb dX8_wants_30 (fun s6 k6 => ?_)
      refine g_getI C w fl_X8_125 s6 k6 (by decide) (fun _ _ _ => rfl) dX8_wants_31 ?_
      refine lv_if_le (tgt := 41) C.1 C.2.1 dX8_wants_34 (by decide) (fun hc => ?_) (fun hc => ?_)
      · have h := (if_pos hc).symm.trans h
        refine lv_iconst (v := 0) C.1 C.2.1 dX8_wants_41 (by decide) ?_
        exact g_zretP C w hr (by decide) dX8_wants_42 h
      · have h := (if_neg hc).symm.trans h
        refine lv_iconst (v := 1) C.1 C.2.1 dX8_wants_37 (by decide) ?_
        refine lv_goto (tgt := 42) C.1 C.2.1 dX8_wants_38 (by decide) ?_
        exact g_zretP C w hr (by decide) dX8_wants_42 h

set_option maxHeartbeats 4000000 in
set_option maxRecDepth 100000 in
theorem m_X8_comes {l : Launch} {D : va_G} {cA : Nat → ClassId} {B : BA} {S : Nat → Prop} {σ : GS} {th : Nat} {a1 : Nat} {o : GS} (sth : S th) (kth : kdG th = 8) (sa1 : S a1) (ka1 : kdG a1 = 9) (h0 : F_X8_comes σ th a1 = some o) : MF l yX8_comes cX8_comes 3 none 2 44 D cA B S [.ref (B.1 th), .ref (B.1 a1)] σ o none := by
  refine MF.of (by decide +kernel) (Nat.le_of_ble_eq_true rfl) ?_
  intro p e s m args below meth c C hr w ls hl
  have hl : lv_has ls 3 [(0, .ref (B.1 th)), (1, .ref (B.1 a1))] := hl
  have B_54 : ∀ (σ : GS) (v2 : Int32) (H : Heap) (locs : List Loc) (ls : Array Slot), J_X8_comes_54 th a1 σ v2 = some o → WS D cA B S (AB B S) σ s H locs → lv_has ls 3 [(0, .ref (B.1 th)), (1, .ref (B.1 a1)), (2, .int v2)] → W p l e (rmF 2 44) s m args below meth c H locs 0 0 (MQ below (QF D cA B S o none) args s 0 0 (AB B S)) (F0 m 54 ls []) := by
    intro σ v2 H locs ls h  w hl
    unfold J_X8_comes_54 at h
    refine lv_aload_n C.1 C.2.1 dX8_comes_54 rfl (lv_at hl 1 rfl) ?_
    refine lv_dup C.1 C.2.1 dX8_comes_55 rfl ?_
    refine g_getI C w fl_X8_160 sa1 ka1 (by decide) (fun _ _ _ => rfl) dX8_comes_56 ?_
    refine lv_aload_n C.1 C.2.1 dX8_comes_59 rfl (lv_at hl 1 rfl) ?_
    refine g_getI C w fl_X8_108 sa1 ka1 (by decide) (fun _ _ _ => rfl) dX8_comes_60 ?_
    refine lv_iadd C.1 C.2.1 dX8_comes_63 ?_
    refine g_putI C w fw_X8_160 sa1 ka1 (by decide) (fun _ _ _ => rfl) rfl rfl dX8_comes_64 (fun H locs w => ?_)
    refine lv_aload_n C.1 C.2.1 dX8_comes_67 rfl (lv_at hl 1 rfl) ?_
    refine lv_aload_n C.1 C.2.1 dX8_comes_68 rfl (lv_at hl 0 rfl) ?_
    refine lv_aload_n C.1 C.2.1 dX8_comes_69 rfl (lv_at hl 1 rfl) ?_
    refine lv_iload_n C.1 C.2.1 dX8_comes_70 rfl (lv_at hl 2 rfl) ?_
    refine lv_aload_n C.1 C.2.1 dX8_comes_71 rfl (lv_at hl 1 rfl) ?_
    refine g_getI C w fl_X8_108 sa1 ka1 (by decide) (fun _ _ _ => rfl) dX8_comes_72 ?_
    obtain ⟨o6, ho6, h⟩ := g_bd h
    refine g_callV (n := 3) (As := [.ref (B.1 a1), .int v2, .int (gI (sI σ a1 15 ((gI σ a1 15) + (gI σ a1 8))) a1 8)]) (rest := [.ref (B.1 a1)]) C w (m_X8_sizeOf sth kth sa1 ka1 ho6) (cl_8).1 sth kth (by decide) ml_X8_92 iy_X8_sizeOf sy_X8_sizeOf in_X8 cy_X8_sizeOf ⟨rfl, by decide +kernel, by decide +kernel, by decide +kernel⟩ rfl ⟨Nat.le_of_ble_eq_true rfl, Nat.le_of_ble_eq_true rfl⟩ rfl (Nat.le_of_ble_eq_true rfl) hl.1 ⟨Nat.le_of_ble_eq_true rfl, Nat.le_of_ble_eq_true rfl⟩ dX8_comes_75 (fun H locs w => ?_)
    refine lv_aload_n C.1 C.2.1 dX8_comes_78 rfl (lv_at hl 0 rfl) ?_
    refine g_getI C w fl_X8_57 sth kth (by decide) (fun _ _ _ => rfl) dX8_comes_79 ?_
    refine lv_iconst (v := 1) C.1 C.2.1 dX8_comes_82 (by decide) ?_
    refine lv_iadd C.1 C.2.1 dX8_comes_83 ?_
    refine lv_aload_n C.1 C.2.1 dX8_comes_84 rfl (lv_at hl 1 rfl) ?_
    refine g_getI C w fl_X8_128 sa1 ka1 (by decide) (fun _ _ _ => rfl) dX8_comes_85 ?_
    refine lv_isub C.1 C.2.1 dX8_comes_88 ?_
    obtain ⟨hb, h⟩ := g_ob h
    refine lv_idiv C.1 C.2.1 dX8_comes_89 hb ?_
    refine g_putI C w fw_X8_96 sa1 ka1 (by decide) (fun _ _ _ => rfl) rfl rfl dX8_comes_90 (fun H locs w => ?_)
    refine lv_aload_n C.1 C.2.1 dX8_comes_93 rfl (lv_at hl 1 rfl) ?_
    refine g_getR C w fl_X8_154 sa1 ka1 (by decide) kt_9_20 (fun _ _ _ => rfl) dX8_comes_94 (fun s8 k8 => ?_)
    refine lv_iload_n C.1 C.2.1 dX8_comes_97 rfl (lv_at hl 2 rfl) ?_
    refine lv_aload_n C.1 C.2.1 dX8_comes_98 rfl (lv_at hl 1 rfl) ?_
    refine g_getI C w fl_X8_108 sa1 ka1 (by decide) (fun _ _ _ => rfl) dX8_comes_99 ?_
    obtain ⟨hb, h⟩ := g_ob h
    refine g_iast C w s8 k8 hb dX8_comes_102 (fun H locs w => ?_)
    refine lv_aload_n C.1 C.2.1 dX8_comes_103 rfl (lv_at hl 1 rfl) ?_
    refine g_getR C w fl_X8_163 sa1 ka1 (by decide) kt_9_21 (fun _ _ _ => rfl) dX8_comes_104 (fun s10 k10 => ?_)
    refine lv_iload_n C.1 C.2.1 dX8_comes_107 rfl (lv_at hl 2 rfl) ?_
    refine lv_aload_n C.1 C.2.1 dX8_comes_108 rfl (lv_at hl 1 rfl) ?_
    refine g_getI C w fl_X8_128 sa1 ka1 (by decide) (fun _ _ _ => rfl) dX8_comes_109 ?_
    obtain ⟨hb, h⟩ := g_ob h
    refine g_iast C w s10 k10 hb dX8_comes_112 (fun H locs w => ?_)
    refine lv_aload_n C.1 C.2.1 dX8_comes_113 rfl (lv_at hl 1 rfl) ?_
    refine g_getR C w fl_X8_166 sa1 ka1 (by decide) kt_9_22 (fun _ _ _ => rfl) dX8_comes_114 (fun s12 k12 => ?_)
    refine lv_iload_n C.1 C.2.1 dX8_comes_117 rfl (lv_at hl 2 rfl) ?_
    refine lv_aload_n C.1 C.2.1 dX8_comes_118 rfl (lv_at hl 0 rfl) ?_
    refine g_getI C w fl_X8_57 sth kth (by decide) (fun _ _ _ => rfl) dX8_comes_119 ?_
    obtain ⟨hb, h⟩ := g_ob h
    refine g_iast C w s12 k12 hb dX8_comes_122 (fun H locs w => ?_)
    refine lv_aload_n C.1 C.2.1 dX8_comes_123 rfl (lv_at hl 1 rfl) ?_
    refine lv_iconst (v := (-1)) C.1 C.2.1 dX8_comes_124 (by decide) ?_
    refine g_putI C w fw_X8_108 sa1 ka1 (by decide) (fun _ _ _ => rfl) rfl rfl dX8_comes_125 (fun H locs w => ?_)
    refine lv_aload_n C.1 C.2.1 dX8_comes_128 rfl (lv_at hl 0 rfl) ?_
    refine g_getR C w fl_X8_23 sth kth (by decide) kt_8_12 (fun _ _ _ => rfl) dX8_comes_129 (fun s15 k15 => ?_)
    refine lv_iconst (v := 3) C.1 C.2.1 dX8_comes_132 (by decide) ?_
    refine lv_dup2_11 C.1 C.2.1 dX8_comes_133 rfl rfl ?_
    obtain ⟨hb, h⟩ := g_ob h
    refine g_iald C w s15 k15 hb dX8_comes_134 ?_
    refine lv_iconst (v := 1) C.1 C.2.1 dX8_comes_135 (by decide) ?_
    refine lv_iadd C.1 C.2.1 dX8_comes_136 ?_
    obtain ⟨hb, h⟩ := g_ob h
    refine g_iast C w s15 k15 hb dX8_comes_137 (fun H locs w => ?_)
    exact g_vretV C w hr dX8_comes_138 h
  have h := h0
  unfold F_X8_comes at h
  refine lv_aload_n C.1 C.2.1 dX8_comes_0 rfl (lv_at hl 1 rfl) ?_
  refine lv_dup C.1 C.2.1 dX8_comes_1 rfl ?_
  refine g_getI C w fl_X8_118 sa1 ka1 (by decide) (fun _ _ _ => rfl) dX8_comes_2 ?_
  refine lv_dup_x1 C.1 C.2.1 dX8_comes_5 rfl rfl ?_
  refine lv_iconst (v := 1) C.1 C.2.1 dX8_comes_6 (by decide) ?_
  refine lv_iadd C.1 C.2.1 dX8_comes_7 ?_
  refine g_putI C w fw_X8_118 sa1 ka1 (by decide) (fun _ _ _ => rfl) rfl rfl dX8_comes_8 (fun H locs w => ?_)
  refine lv_istore_n (lv' := [(2, .int (gI σ a1 7)), (0, .ref (B.1 th)), (1, .ref (B.1 a1))]) C.1 C.2.1 dX8_comes_11 rfl hl (by decide) rfl (fun ls hl => ?_)
  refine lv_aload_n C.1 C.2.1 dX8_comes_12 rfl (lv_at hl 2 rfl) ?_
  refine lv_dup C.1 C.2.1 dX8_comes_13 rfl ?_
  refine g_getI C w fl_X8_82 sa1 ka1 (by decide) (fun _ _ _ => rfl) dX8_comes_14 ?_
  refine lv_aload_n C.1 C.2.1 dX8_comes_17 rfl (lv_at hl 1 rfl) ?_
  refine g_getI C w fl_X8_36 sth kth (by decide) (fun _ _ _ => rfl) dX8_comes_18 ?_
  refine lv_iadd C.1 C.2.1 dX8_comes_21 ?_
  refine g_putI C w fw_X8_82 sa1 ka1 (by decide) (fun _ _ _ => rfl) rfl rfl dX8_comes_22 (fun H locs w => ?_)
  refine lv_iload_n C.1 C.2.1 dX8_comes_25 rfl (lv_at hl 0 rfl) ?_
  refine lv_if_le (tgt := 54) C.1 C.2.1 dX8_comes_26 (by decide) (fun hc => ?_) (fun hc => ?_)
  · have h := (if_pos hc).symm.trans h
    exact B_54 _ _ _ _ _ h w (show lv_has ls 3 [(0, .ref (B.1 th)), (1, .ref (B.1 a1)), (2, .int (gI σ a1 7))] from lv_sub hl [1, 2, 0] rfl)
  · have h := (if_neg hc).symm.trans h
    refine lv_aload_n C.1 C.2.1 dX8_comes_29 rfl (lv_at hl 2 rfl) ?_
    refine g_getR C w fl_X8_154 sa1 ka1 (by decide) kt_9_20 (fun _ _ _ => rfl) dX8_comes_30 (fun s3 k3 => ?_)
    refine lv_iload_n C.1 C.2.1 dX8_comes_33 rfl (lv_at hl 0 rfl) ?_
    refine lv_iconst (v := 1) C.1 C.2.1 dX8_comes_34 (by decide) ?_
    refine lv_isub C.1 C.2.1 dX8_comes_35 ?_
    obtain ⟨hb, h⟩ := g_ob h
    refine g_iald C w s3 k3 hb dX8_comes_36 ?_
    refine lv_aload_n C.1 C.2.1 dX8_comes_37 rfl (lv_at hl 2 rfl) ?_
    refine g_getI C w fl_X8_108 sa1 ka1 (by decide) (fun _ _ _ => rfl) dX8_comes_38 ?_
    refine lv_icmp_eq (tgt := 54) C.1 C.2.1 dX8_comes_41 (by decide) (fun hc => ?_) (fun hc => ?_)
    · have h := (if_pos hc).symm.trans h
      exact B_54 _ _ _ _ _ h w (show lv_has ls 3 [(0, .ref (B.1 th)), (1, .ref (B.1 a1)), (2, .int (gI σ a1 7))] from lv_sub hl [1, 2, 0] rfl)
    · have h := (if_neg hc).symm.trans h
      refine lv_aload_n C.1 C.2.1 dX8_comes_44 rfl (lv_at hl 2 rfl) ?_
      refine lv_dup C.1 C.2.1 dX8_comes_45 rfl ?_
      refine g_getI C w fl_X8_157 sa1 ka1 (by decide) (fun _ _ _ => rfl) dX8_comes_46 ?_
      refine lv_iconst (v := 1) C.1 C.2.1 dX8_comes_49 (by decide) ?_
      refine lv_iadd C.1 C.2.1 dX8_comes_50 ?_
      refine g_putI C w fw_X8_157 sa1 ka1 (by decide) (fun _ _ _ => rfl) rfl rfl dX8_comes_51 (fun H locs w => ?_)
      exact B_54 _ _ _ _ _ h w (show lv_has ls 3 [(0, .ref (B.1 th)), (1, .ref (B.1 a1)), (2, .int (gI σ a1 7))] from lv_sub hl [1, 2, 0] rfl)

