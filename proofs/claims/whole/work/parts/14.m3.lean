set_option maxHeartbeats 4000000 in
set_option maxRecDepth 100000 in
theorem m_X6_greatestWithin {l : Launch} {D : va_G} {cA : Nat → ClassId} {B : Nat} {S : Nat → Prop} {σ : GS} {th : Nat} {a1 : Int32} {a2 : Int32} {o : Int32} (sth : S th) (kth : kdG th = 6) (h0 : F_X6_greatestWithin σ th a1 a2 = some o) : MF l yX6_greatestWithin cX6_greatestWithin 5 (some .int) 0 0 D cA B S [.ref (B + th), .int a1, .int a2] σ σ (some (.int o)) := by
  refine MF.of (by decide +kernel) (Nat.le_of_ble_eq_true rfl) ?_
  intro p e s m args below meth c C hr w ls hl
  have hl : lv_has ls 5 [(0, .ref (B + th)), (1, .int a1), (2, .int a2)] := hl
  have B_7 : ∀ (n7 : Nat) (v3 : Int32) (H : Heap) (locs : List Loc) (ls : Array Slot), L_X6_greatestWithin_7 th a1 a2 n7 σ v3 = some o → WS D cA B S σ s H locs → lv_has ls 5 [(0, .ref (B + th)), (1, .int a1), (2, .int a2), (3, .int v3)] → W p l e (rmF 0 0) s m args below meth c H locs 0 0 (MQ below (QF D cA B S σ (some (.int o))) args s 0 0 (AB B S)) (F0 m 7 ls []) := by
    intro n7
    induction n7 with
    | zero => intro  v3 H locs ls h; exact nomatch (show (none : Option (Int32)) = some o from h)
    | succ n7 ih7 =>
      intro  v3 H locs ls h  w hl
      unfold L_X6_greatestWithin_7 at h
      refine lv_iload_n C.1 C.2.1 dX6_greatestWithin_7 rfl (lv_at hl 3 rfl) ?_
      refine lv_if_le (tgt := 55) C.1 C.2.1 dX6_greatestWithin_8 (by decide) (fun hc => ?_) (fun hc => ?_)
      · have h := (if_pos hc).symm.trans h
        refine lv_iconst (v := 0) C.1 C.2.1 dX6_greatestWithin_55 (by decide) ?_
        exact g_iretP C w hr dX6_greatestWithin_56 h
      · have h := (if_neg hc).symm.trans h
        refine lv_iload_n C.1 C.2.1 dX6_greatestWithin_11 rfl (lv_at hl 1 rfl) ?_
        refine lv_iconst (v := 4) C.1 C.2.1 dX6_greatestWithin_12 (by decide) ?_
        refine lv_imul C.1 C.2.1 dX6_greatestWithin_13 ?_
        refine lv_iload_n C.1 C.2.1 dX6_greatestWithin_14 rfl (lv_at hl 3 rfl) ?_
        refine lv_iadd C.1 C.2.1 dX6_greatestWithin_15 ?_
        refine lv_istore (lv' := [(4, .int ((a1 * 4) + v3)), (0, .ref (B + th)), (1, .int a1), (2, .int a2), (3, .int v3)]) C.1 C.2.1 dX6_greatestWithin_16 hl (by decide) rfl (fun ls hl => ?_)
        refine lv_iload C.1 C.2.1 dX6_greatestWithin_18 (lv_at hl 0 rfl) ?_
        refine lv_if_lt (tgt := 49) C.1 C.2.1 dX6_greatestWithin_20 (by decide) (fun hc => ?_) (fun hc => ?_)
        · have h := (if_pos hc).symm.trans h
          refine lv_iinc (k := 4) (v := v3 + (-1)) (lv' := [(3, .int (v3 + (-1))), (4, .int ((a1 * 4) + v3)), (0, .ref (B + th)), (1, .int a1), (2, .int a2)]) C.1 C.2.1 dX6_greatestWithin_49 hl rfl rfl (by decide) rfl (fun ls hl => ?_)
          refine lv_goto (tgt := 7) C.1 C.2.1 dX6_greatestWithin_52 (by decide) ?_
          exact ih7 _ _ _ _ h w (show lv_has ls 5 [(0, .ref (B + th)), (1, .int a1), (2, .int a2), (3, .int (v3 + (-1)))] from lv_sub hl [2, 3, 4, 0] rfl)
        · have h := (if_neg hc).symm.trans h
          refine lv_iload C.1 C.2.1 dX6_greatestWithin_23 (lv_at hl 0 rfl) ?_
          refine lv_aload_n C.1 C.2.1 dX6_greatestWithin_25 rfl (lv_at hl 1 rfl) ?_
          refine g_getR C w fl_X6_15 sth kth (by decide) kt_6_1 (fun _ _ _ => rfl) dX6_greatestWithin_26 (fun s1 k1 => ?_)
          refine g_alen C w s1 k1 (by decide) (by decide) dX6_greatestWithin_29 ?_
          refine lv_icmp_ge (tgt := 49) C.1 C.2.1 dX6_greatestWithin_30 (by decide) (fun hc => ?_) (fun hc => ?_)
          · have h := (if_pos hc).symm.trans h
            refine lv_iinc (k := 4) (v := v3 + (-1)) (lv' := [(3, .int (v3 + (-1))), (4, .int ((a1 * 4) + v3)), (0, .ref (B + th)), (1, .int a1), (2, .int a2)]) C.1 C.2.1 dX6_greatestWithin_49 hl rfl rfl (by decide) rfl (fun ls hl => ?_)
            refine lv_goto (tgt := 7) C.1 C.2.1 dX6_greatestWithin_52 (by decide) ?_
            exact ih7 _ _ _ _ h w (show lv_has ls 5 [(0, .ref (B + th)), (1, .int a1), (2, .int a2), (3, .int (v3 + (-1)))] from lv_sub hl [2, 3, 4, 0] rfl)
          · have h := (if_neg hc).symm.trans h
            refine lv_aload_n C.1 C.2.1 dX6_greatestWithin_33 rfl (lv_at hl 1 rfl) ?_
            refine g_getR C w fl_X6_15 sth kth (by decide) kt_6_1 (fun _ _ _ => rfl) dX6_greatestWithin_34 (fun s2 k2 => ?_)
            refine lv_iload C.1 C.2.1 dX6_greatestWithin_37 (lv_at hl 0 rfl) ?_
            obtain ⟨hb, h⟩ := g_ob h
            refine g_iald C w s2 k2 hb dX6_greatestWithin_39 ?_
            refine lv_bipush (v := 100) C.1 C.2.1 dX6_greatestWithin_40 (by decide) ?_
            refine lv_imul C.1 C.2.1 dX6_greatestWithin_42 ?_
            refine lv_iload_n C.1 C.2.1 dX6_greatestWithin_43 rfl (lv_at hl 3 rfl) ?_
            refine lv_icmp_gt (tgt := 49) C.1 C.2.1 dX6_greatestWithin_44 (by decide) (fun hc => ?_) (fun hc => ?_)
            · have h := (if_pos hc).symm.trans h
              refine lv_iinc (k := 4) (v := v3 + (-1)) (lv' := [(3, .int (v3 + (-1))), (4, .int ((a1 * 4) + v3)), (0, .ref (B + th)), (1, .int a1), (2, .int a2)]) C.1 C.2.1 dX6_greatestWithin_49 hl rfl rfl (by decide) rfl (fun ls hl => ?_)
              refine lv_goto (tgt := 7) C.1 C.2.1 dX6_greatestWithin_52 (by decide) ?_
              exact ih7 _ _ _ _ h w (show lv_has ls 5 [(0, .ref (B + th)), (1, .int a1), (2, .int a2), (3, .int (v3 + (-1)))] from lv_sub hl [2, 3, 4, 0] rfl)
            · have h := (if_neg hc).symm.trans h
              refine lv_iload_n C.1 C.2.1 dX6_greatestWithin_47 rfl (lv_at hl 4 rfl) ?_
              exact g_iretP C w hr dX6_greatestWithin_48 h
  have h := h0
  unfold F_X6_greatestWithin at h
  refine lv_aload_n C.1 C.2.1 dX6_greatestWithin_0 rfl (lv_at hl 0 rfl) ?_
  refine g_getI C w fl_X6_36 sth kth (by decide) (fun _ _ _ => rfl) dX6_greatestWithin_1 ?_
  refine lv_iconst (v := 1) C.1 C.2.1 dX6_greatestWithin_4 (by decide) ?_
  refine lv_isub C.1 C.2.1 dX6_greatestWithin_5 ?_
  refine lv_istore_n (lv' := [(3, .int ((gI σ th 6) - 1)), (0, .ref (B + th)), (1, .int a1), (2, .int a2)]) C.1 C.2.1 dX6_greatestWithin_6 rfl hl (by decide) rfl (fun ls hl => ?_)
  exact B_7 _ _ _ _ _ h w (show lv_has ls 5 [(0, .ref (B + th)), (1, .int a1), (2, .int a2), (3, .int ((gI σ th 6) - 1))] from lv_sub hl [1, 2, 3, 0] rfl)

set_option maxHeartbeats 4000000 in
set_option maxRecDepth 100000 in
theorem m_X7_append {l : Launch} {D : va_G} {cA : Nat → ClassId} {B : Nat} {S : Nat → Prop} {σ : GS} {th : Nat} {a1 : Int32} {a2 : Int32} {a3 : Int32} {a4 : Int32} {a5 : Int32} {o : GS × Int32} (sth : S th) (kth : kdG th = 7) (h0 : F_X7_append σ th a1 a2 a3 a4 a5 = some o) : MF l yX7_append cX7_append 6 (some .int) 1 22 D cA B S [.ref (B + th), .int a1, .int a2, .int a3, .int a4, .int a5] σ o.1 (some (.int o.2)) := by
  refine MF.of (by decide +kernel) (Nat.le_of_ble_eq_true rfl) ?_
  intro p e s m args below meth c C hr w ls hl
  have hl : lv_has ls 6 [(0, .ref (B + th)), (1, .int a1), (2, .int a2), (3, .int a3), (4, .int a4), (5, .int a5)] := hl
  have h := h0
  unfold F_X7_append at h
  refine lv_aload_n C.1 C.2.1 dX7_append_0 rfl (lv_at hl 0 rfl) ?_
  refine g_getR C w fl_X7_10 sth kth (by decide) kt_7_0 (fun _ _ _ => rfl) dX7_append_1 (fun s1 k1 => ?_)
  obtain ⟨o2, ho2, h⟩ := g_bd h
  refine g_callV (n := 0) (As := []) (rest := []) C w (m_X4_hasRoom s1 k1 ho2) (cl_4).1 s1 k1 (by decide) ml_X7_59 iy_X4_hasRoom sy_X4_hasRoom in_X4 cy_X4_hasRoom ⟨rfl, by decide +kernel, by decide +kernel, by decide +kernel⟩ rfl ⟨Nat.le_of_ble_eq_true rfl, Nat.le_of_ble_eq_true rfl⟩ rfl (Nat.le_of_ble_eq_true rfl) hl.1 ⟨Nat.le_of_ble_eq_true rfl, Nat.le_of_ble_eq_true rfl⟩ dX7_append_4 (fun H locs w => ?_)
  refine lv_if_ne (tgt := 12) C.1 C.2.1 dX7_append_7 (by decide) (fun hc => ?_) (fun hc => ?_)
  · have h := (if_neg hc).symm.trans h
    refine lv_aload_n C.1 C.2.1 dX7_append_12 rfl (lv_at hl 0 rfl) ?_
    refine g_getR C w fl_X7_10 sth kth (by decide) kt_7_0 (fun _ _ _ => rfl) dX7_append_13 (fun s3 k3 => ?_)
    refine lv_iload_n C.1 C.2.1 dX7_append_16 rfl (lv_at hl 1 rfl) ?_
    obtain ⟨o4, ho4, h⟩ := g_bd h
    refine g_callV (n := 1) (As := [.int a1]) (rest := []) C w (m_X4_addBytes s3 k3 ho4) (cl_4).1 s3 k3 (by decide) ml_X7_63 iy_X4_addBytes sy_X4_addBytes in_X4 cy_X4_addBytes ⟨rfl, by decide +kernel, by decide +kernel, by decide +kernel⟩ rfl ⟨Nat.le_of_ble_eq_true rfl, Nat.le_of_ble_eq_true rfl⟩ rfl (Nat.le_of_ble_eq_true rfl) hl.1 ⟨Nat.le_of_ble_eq_true rfl, Nat.le_of_ble_eq_true rfl⟩ dX7_append_17 (fun H locs w => ?_)
    refine lv_aload_n C.1 C.2.1 dX7_append_20 rfl (lv_at hl 0 rfl) ?_
    refine g_getR C w fl_X7_10 sth kth (by decide) kt_7_0 (fun _ _ _ => rfl) dX7_append_21 (fun s5 k5 => ?_)
    refine lv_iload_n C.1 C.2.1 dX7_append_24 rfl (lv_at hl 2 rfl) ?_
    obtain ⟨o6, ho6, h⟩ := g_bd h
    refine g_callV (n := 1) (As := [.int a2]) (rest := []) C w (m_X4_addBytes s5 k5 ho6) (cl_4).1 s5 k5 (by decide) ml_X7_63 iy_X4_addBytes sy_X4_addBytes in_X4 cy_X4_addBytes ⟨rfl, by decide +kernel, by decide +kernel, by decide +kernel⟩ rfl ⟨Nat.le_of_ble_eq_true rfl, Nat.le_of_ble_eq_true rfl⟩ rfl (Nat.le_of_ble_eq_true rfl) hl.1 ⟨Nat.le_of_ble_eq_true rfl, Nat.le_of_ble_eq_true rfl⟩ dX7_append_25 (fun H locs w => ?_)
    refine lv_aload_n C.1 C.2.1 dX7_append_28 rfl (lv_at hl 0 rfl) ?_
    refine g_getR C w fl_X7_10 sth kth (by decide) kt_7_0 (fun _ _ _ => rfl) dX7_append_29 (fun s7 k7 => ?_)
    refine lv_iload_n C.1 C.2.1 dX7_append_32 rfl (lv_at hl 3 rfl) ?_
    obtain ⟨o8, ho8, h⟩ := g_bd h
    refine g_callV (n := 1) (As := [.int a3]) (rest := []) C w (m_X4_addBytes s7 k7 ho8) (cl_4).1 s7 k7 (by decide) ml_X7_63 iy_X4_addBytes sy_X4_addBytes in_X4 cy_X4_addBytes ⟨rfl, by decide +kernel, by decide +kernel, by decide +kernel⟩ rfl ⟨Nat.le_of_ble_eq_true rfl, Nat.le_of_ble_eq_true rfl⟩ rfl (Nat.le_of_ble_eq_true rfl) hl.1 ⟨Nat.le_of_ble_eq_true rfl, Nat.le_of_ble_eq_true rfl⟩ dX7_append_33 (fun H locs w => ?_)
    refine lv_aload_n C.1 C.2.1 dX7_append_36 rfl (lv_at hl 0 rfl) ?_
    refine g_getR C w fl_X7_10 sth kth (by decide) kt_7_0 (fun _ _ _ => rfl) dX7_append_37 (fun s9 k9 => ?_)
    refine lv_iload C.1 C.2.1 dX7_append_40 (lv_at hl 4 rfl) ?_
    obtain ⟨o10, ho10, h⟩ := g_bd h
    refine g_callV (n := 1) (As := [.int a4]) (rest := []) C w (m_X4_addBytes s9 k9 ho10) (cl_4).1 s9 k9 (by decide) ml_X7_63 iy_X4_addBytes sy_X4_addBytes in_X4 cy_X4_addBytes ⟨rfl, by decide +kernel, by decide +kernel, by decide +kernel⟩ rfl ⟨Nat.le_of_ble_eq_true rfl, Nat.le_of_ble_eq_true rfl⟩ rfl (Nat.le_of_ble_eq_true rfl) hl.1 ⟨Nat.le_of_ble_eq_true rfl, Nat.le_of_ble_eq_true rfl⟩ dX7_append_42 (fun H locs w => ?_)
    refine lv_aload_n C.1 C.2.1 dX7_append_45 rfl (lv_at hl 0 rfl) ?_
    refine g_getR C w fl_X7_10 sth kth (by decide) kt_7_0 (fun _ _ _ => rfl) dX7_append_46 (fun s11 k11 => ?_)
    refine lv_iload C.1 C.2.1 dX7_append_49 (lv_at hl 5 rfl) ?_
    obtain ⟨o12, ho12, h⟩ := g_bd h
    refine g_callV (n := 1) (As := [.int a5]) (rest := []) C w (m_X4_addBytes s11 k11 ho12) (cl_4).1 s11 k11 (by decide) ml_X7_63 iy_X4_addBytes sy_X4_addBytes in_X4 cy_X4_addBytes ⟨rfl, by decide +kernel, by decide +kernel, by decide +kernel⟩ rfl ⟨Nat.le_of_ble_eq_true rfl, Nat.le_of_ble_eq_true rfl⟩ rfl (Nat.le_of_ble_eq_true rfl) hl.1 ⟨Nat.le_of_ble_eq_true rfl, Nat.le_of_ble_eq_true rfl⟩ dX7_append_51 (fun H locs w => ?_)
    refine lv_aload_n C.1 C.2.1 dX7_append_54 rfl (lv_at hl 0 rfl) ?_
    refine g_getR C w fl_X7_10 sth kth (by decide) kt_7_0 (fun _ _ _ => rfl) dX7_append_55 (fun s13 k13 => ?_)
    refine g_getI C w fl_X7_67 s13 k13 (by decide) (fun _ _ _ => rfl) dX7_append_58 ?_
    exact g_iretB C w hr dX7_append_61 h
  · have h := (if_pos hc).symm.trans h
    refine lv_iconst (v := (-1)) C.1 C.2.1 dX7_append_10 (by decide) ?_
    exact g_iretB C w hr dX7_append_11 h

set_option maxHeartbeats 4000000 in
set_option maxRecDepth 100000 in
theorem m_X7_errorPosition {l : Launch} {D : va_G} {cA : Nat → ClassId} {B : Nat} {S : Nat → Prop} {σ : GS} {th : Nat} {o : Int32} (sth : S th) (kth : kdG th = 7) (h0 : F_X7_errorPosition σ th = some o) : MF l yX7_errorPosition cX7_errorPosition 1 (some .int) 0 0 D cA B S [.ref (B + th)] σ σ (some (.int o)) := by
  refine MF.of (by decide +kernel) (Nat.le_of_ble_eq_true rfl) ?_
  intro p e s m args below meth c C hr w ls hl
  have hl : lv_has ls 1 [(0, .ref (B + th))] := hl
  have h := h0
  unfold F_X7_errorPosition at h
  refine lv_aload_n C.1 C.2.1 dX7_errorPosition_0 rfl (lv_at hl 0 rfl) ?_
  refine g_getR C w fl_X7_10 sth kth (by decide) kt_7_0 (fun _ _ _ => rfl) dX7_errorPosition_1 (fun s1 k1 => ?_)
  refine g_getI C w fl_X7_87 s1 k1 (by decide) (fun _ _ _ => rfl) dX7_errorPosition_4 ?_
  exact g_iretP C w hr dX7_errorPosition_7 h

set_option maxHeartbeats 4000000 in
set_option maxRecDepth 100000 in
theorem m_X7_size {l : Launch} (hfl : l.stackTraces = false) {D : va_G} {cA : Nat → ClassId} {B : Nat} {S : Nat → Prop} {σ : GS} {th : Nat} {a1 : Int32} {o : GS × (String ⊕ Int32)} (sth : S th) (kth : kdG th = 7) (h0 : F_X7_size σ th a1 = some o) : MX l yX7_size cX7_size 2 (some .int) 6 89 1 D cA B S [.ref (B + th), .int a1] σ o.1 (mRi o.2) := by
  refine MX.of (by decide +kernel) (Nat.le_of_ble_eq_true rfl) ?_
  intro p e s m args below meth c C hr hex w ls hl
  have hl : lv_has ls 2 [(0, .ref (B + th)), (1, .int a1)] := hl
  have h := h0
  unfold F_X7_size at h
  refine lv_iload_n C.1 C.2.1 dX7_size_0 rfl (lv_at hl 1 rfl) ?_
  by_cases hc0 : a1 = 0
  · have h := (if_pos hc0).symm.trans h
    refine lv_tableIn (off := 59) (tgt := 60) C.1 C.2.1 dX7_size_1 (by rw [hc0]; decide) (by rw [hc0]; decide) (by rw [hc0]; decide) (by decide) ?_
    refine lv_aload_n C.1 C.2.1 dX7_size_60 rfl (lv_at hl 0 rfl) ?_
    refine g_getR C w fl_X7_19 sth kth (by decide) kt_7_1 (fun _ _ _ => rfl) dX7_size_61 (fun s1 k1 => ?_)
    refine g_getI C w fl_X7_90 s1 k1 (by decide) (fun _ _ _ => rfl) dX7_size_64 ?_
    exact g_iretX C w hr dX7_size_67 h (fun _ => rfl) (Nat.le_of_ble_eq_true rfl) (Nat.le_of_ble_eq_true rfl)
  have h := (if_neg hc0).symm.trans h
  by_cases hc1 : a1 = 1
  · have h := (if_pos hc1).symm.trans h
    refine lv_tableIn (off := 67) (tgt := 68) C.1 C.2.1 dX7_size_1 (by rw [hc1]; decide) (by rw [hc1]; decide) (by rw [hc1]; decide) (by decide) ?_
    refine lv_aload_n C.1 C.2.1 dX7_size_68 rfl (lv_at hl 0 rfl) ?_
    refine g_getR C w fl_X7_19 sth kth (by decide) kt_7_1 (fun _ _ _ => rfl) dX7_size_69 (fun s2 k2 => ?_)
    refine g_getI C w fl_X7_93 s2 k2 (by decide) (fun _ _ _ => rfl) dX7_size_72 ?_
    exact g_iretX C w hr dX7_size_75 h (fun _ => rfl) (Nat.le_of_ble_eq_true rfl) (Nat.le_of_ble_eq_true rfl)
  have h := (if_neg hc1).symm.trans h
  by_cases hc2 : a1 = 2
  · have h := (if_pos hc2).symm.trans h
    refine lv_tableIn (off := 75) (tgt := 76) C.1 C.2.1 dX7_size_1 (by rw [hc2]; decide) (by rw [hc2]; decide) (by rw [hc2]; decide) (by decide) ?_
    refine lv_aload_n C.1 C.2.1 dX7_size_76 rfl (lv_at hl 0 rfl) ?_
    refine g_getR C w fl_X7_19 sth kth (by decide) kt_7_1 (fun _ _ _ => rfl) dX7_size_77 (fun s3 k3 => ?_)
    refine g_getI C w fl_X7_96 s3 k3 (by decide) (fun _ _ _ => rfl) dX7_size_80 ?_
    exact g_iretX C w hr dX7_size_83 h (fun _ => rfl) (Nat.le_of_ble_eq_true rfl) (Nat.le_of_ble_eq_true rfl)
  have h := (if_neg hc2).symm.trans h
  by_cases hc3 : a1 = 3
  · have h := (if_pos hc3).symm.trans h
    refine lv_tableIn (off := 83) (tgt := 84) C.1 C.2.1 dX7_size_1 (by rw [hc3]; decide) (by rw [hc3]; decide) (by rw [hc3]; decide) (by decide) ?_
    refine lv_aload_n C.1 C.2.1 dX7_size_84 rfl (lv_at hl 0 rfl) ?_
    refine g_getR C w fl_X7_19 sth kth (by decide) kt_7_1 (fun _ _ _ => rfl) dX7_size_85 (fun s4 k4 => ?_)
    refine g_getI C w fl_X7_99 s4 k4 (by decide) (fun _ _ _ => rfl) dX7_size_88 ?_
    exact g_iretX C w hr dX7_size_91 h (fun _ => rfl) (Nat.le_of_ble_eq_true rfl) (Nat.le_of_ble_eq_true rfl)
  have h := (if_neg hc3).symm.trans h
  by_cases hc4 : a1 = 4
  · have h := (if_pos hc4).symm.trans h
    refine lv_tableIn (off := 91) (tgt := 92) C.1 C.2.1 dX7_size_1 (by rw [hc4]; decide) (by rw [hc4]; decide) (by rw [hc4]; decide) (by decide) ?_
    refine lv_aload_n C.1 C.2.1 dX7_size_92 rfl (lv_at hl 0 rfl) ?_
    refine g_getR C w fl_X7_19 sth kth (by decide) kt_7_1 (fun _ _ _ => rfl) dX7_size_93 (fun s5 k5 => ?_)
    refine g_getI C w fl_X7_102 s5 k5 (by decide) (fun _ _ _ => rfl) dX7_size_96 ?_
    exact g_iretX C w hr dX7_size_99 h (fun _ => rfl) (Nat.le_of_ble_eq_true rfl) (Nat.le_of_ble_eq_true rfl)
  have h := (if_neg hc4).symm.trans h
  by_cases hc5 : a1 = 5
  · have h := (if_pos hc5).symm.trans h
    refine lv_tableIn (off := 99) (tgt := 100) C.1 C.2.1 dX7_size_1 (by rw [hc5]; decide) (by rw [hc5]; decide) (by rw [hc5]; decide) (by decide) ?_
    refine lv_aload_n C.1 C.2.1 dX7_size_100 rfl (lv_at hl 0 rfl) ?_
    refine g_getR C w fl_X7_19 sth kth (by decide) kt_7_1 (fun _ _ _ => rfl) dX7_size_101 (fun s6 k6 => ?_)
    refine g_getI C w fl_X7_105 s6 k6 (by decide) (fun _ _ _ => rfl) dX7_size_104 ?_
    exact g_iretX C w hr dX7_size_107 h (fun _ => rfl) (Nat.le_of_ble_eq_true rfl) (Nat.le_of_ble_eq_true rfl)
  have h := (if_neg hc5).symm.trans h
  by_cases hc6 : a1 = 6
  · have h := (if_pos hc6).symm.trans h
    refine lv_tableIn (off := 107) (tgt := 108) C.1 C.2.1 dX7_size_1 (by rw [hc6]; decide) (by rw [hc6]; decide) (by rw [hc6]; decide) (by decide) ?_
    refine lv_aload_n C.1 C.2.1 dX7_size_108 rfl (lv_at hl 0 rfl) ?_
    refine g_getR C w fl_X7_19 sth kth (by decide) kt_7_1 (fun _ _ _ => rfl) dX7_size_109 (fun s7 k7 => ?_)
    refine g_getI C w fl_X7_108 s7 k7 (by decide) (fun _ _ _ => rfl) dX7_size_112 ?_
    exact g_iretX C w hr dX7_size_115 h (fun _ => rfl) (Nat.le_of_ble_eq_true rfl) (Nat.le_of_ble_eq_true rfl)
  have h := (if_neg hc6).symm.trans h
  by_cases hc7 : a1 = 7
  · have h := (if_pos hc7).symm.trans h
    refine lv_tableIn (off := 115) (tgt := 116) C.1 C.2.1 dX7_size_1 (by rw [hc7]; decide) (by rw [hc7]; decide) (by rw [hc7]; decide) (by decide) ?_
    refine lv_aload_n C.1 C.2.1 dX7_size_116 rfl (lv_at hl 0 rfl) ?_
    refine g_getR C w fl_X7_28 sth kth (by decide) kt_7_2 (fun _ _ _ => rfl) dX7_size_117 (fun s8 k8 => ?_)
    refine g_getI C w fl_X7_111 s8 k8 (by decide) (fun _ _ _ => rfl) dX7_size_120 ?_
    exact g_iretX C w hr dX7_size_123 h (fun _ => rfl) (Nat.le_of_ble_eq_true rfl) (Nat.le_of_ble_eq_true rfl)
  have h := (if_neg hc7).symm.trans h
  by_cases hc8 : a1 = 8
  · have h := (if_pos hc8).symm.trans h
    refine lv_tableIn (off := 123) (tgt := 124) C.1 C.2.1 dX7_size_1 (by rw [hc8]; decide) (by rw [hc8]; decide) (by rw [hc8]; decide) (by decide) ?_
    refine lv_aload_n C.1 C.2.1 dX7_size_124 rfl (lv_at hl 0 rfl) ?_
    refine g_getR C w fl_X7_28 sth kth (by decide) kt_7_2 (fun _ _ _ => rfl) dX7_size_125 (fun s9 k9 => ?_)
    obtain ⟨o10, ho10, h⟩ := g_bd h
    refine g_callV (n := 0) (As := []) (rest := []) C w (m_X5_countLoading s9 k9 ho10) (cl_5).1 s9 k9 (by decide) ml_X7_114 iy_X5_countLoading sy_X5_countLoading in_X5 cy_X5_countLoading ⟨rfl, by decide +kernel, by decide +kernel, by decide +kernel⟩ rfl ⟨Nat.le_of_ble_eq_true rfl, Nat.le_of_ble_eq_true rfl⟩ rfl (Nat.le_of_ble_eq_true rfl) hl.1 ⟨Nat.le_of_ble_eq_true rfl, Nat.le_of_ble_eq_true rfl⟩ dX7_size_128 (fun H locs w => ?_)
    exact g_iretX C w hr dX7_size_131 h (fun _ => rfl) (Nat.le_of_ble_eq_true rfl) (Nat.le_of_ble_eq_true rfl)
  have h := (if_neg hc8).symm.trans h
  by_cases hc9 : a1 = 9
  · have h := (if_pos hc9).symm.trans h
    refine lv_tableIn (off := 131) (tgt := 132) C.1 C.2.1 dX7_size_1 (by rw [hc9]; decide) (by rw [hc9]; decide) (by rw [hc9]; decide) (by decide) ?_
    refine lv_aload_n C.1 C.2.1 dX7_size_132 rfl (lv_at hl 0 rfl) ?_
    refine g_getR C w fl_X7_28 sth kth (by decide) kt_7_2 (fun _ _ _ => rfl) dX7_size_133 (fun s11 k11 => ?_)
    obtain ⟨o12, ho12, h⟩ := g_bd h
    refine g_callV (n := 0) (As := []) (rest := []) C w (m_X5_countDone s11 k11 ho12) (cl_5).1 s11 k11 (by decide) ml_X7_118 iy_X5_countDone sy_X5_countDone in_X5 cy_X5_countDone ⟨rfl, by decide +kernel, by decide +kernel, by decide +kernel⟩ rfl ⟨Nat.le_of_ble_eq_true rfl, Nat.le_of_ble_eq_true rfl⟩ rfl (Nat.le_of_ble_eq_true rfl) hl.1 ⟨Nat.le_of_ble_eq_true rfl, Nat.le_of_ble_eq_true rfl⟩ dX7_size_136 (fun H locs w => ?_)
    exact g_iretX C w hr dX7_size_139 h (fun _ => rfl) (Nat.le_of_ble_eq_true rfl) (Nat.le_of_ble_eq_true rfl)
  have h := (if_neg hc9).symm.trans h
  by_cases hc10 : a1 = 10
  · have h := (if_pos hc10).symm.trans h
    refine lv_tableIn (off := 139) (tgt := 140) C.1 C.2.1 dX7_size_1 (by rw [hc10]; decide) (by rw [hc10]; decide) (by rw [hc10]; decide) (by decide) ?_
    refine lv_aload_n C.1 C.2.1 dX7_size_140 rfl (lv_at hl 0 rfl) ?_
    refine g_getR C w fl_X7_44 sth kth (by decide) kt_7_4 (fun _ _ _ => rfl) dX7_size_141 (fun s13 k13 => ?_)
    refine g_getI C w fl_X7_121 s13 k13 (by decide) (fun _ _ _ => rfl) dX7_size_144 ?_
    exact g_iretX C w hr dX7_size_147 h (fun _ => rfl) (Nat.le_of_ble_eq_true rfl) (Nat.le_of_ble_eq_true rfl)
  have h := (if_neg hc10).symm.trans h
  refine lv_tableOut (tgt := 148) C.1 C.2.1 dX7_size_1 (g_sw0_10 hc0 hc1 hc2 hc3 hc4 hc5 hc6 hc7 hc8 hc9 hc10) (by decide) ?_
  exact g_throwE C w hfl tw_IllegalArgumentException hex hl.1 dX7_size_148 dX7_size_151 dX7_size_152 dX7_size_155 (Nat.le_of_ble_eq_true rfl) (Nat.le_of_ble_eq_true rfl) (Nat.le_of_ble_eq_true rfl) (Nat.le_of_ble_eq_true rfl) (Nat.le_of_ble_eq_true rfl) (Nat.le_of_ble_eq_true rfl) (fun _ => rfl) h

set_option maxHeartbeats 4000000 in
set_option maxRecDepth 100000 in
theorem m_X7_rate {l : Launch} (hfl : l.stackTraces = false) {D : va_G} {cA : Nat → ClassId} {B : Nat} {S : Nat → Prop} {σ : GS} {th : Nat} {a1 : Int32} {o : GS × (String ⊕ Int32)} (sth : S th) (kth : kdG th = 7) (h0 : F_X7_rate σ th a1 = some o) : MX l yX7_rate cX7_rate 2 (some .int) 6 89 1 D cA B S [.ref (B + th), .int a1] σ o.1 (mRi o.2) := by
  refine MX.of (by decide +kernel) (Nat.le_of_ble_eq_true rfl) ?_
  intro p e s m args below meth c C hr hex w ls hl
  have hl : lv_has ls 2 [(0, .ref (B + th)), (1, .int a1)] := hl
  have h := h0
  unfold F_X7_rate at h
  refine lv_iload_n C.1 C.2.1 dX7_rate_0 rfl (lv_at hl 1 rfl) ?_
  refine lv_if_ge (tgt := 12) C.1 C.2.1 dX7_rate_1 (by decide) (fun hc => ?_) (fun hc => ?_)
  · have h := (if_pos hc).symm.trans h
    refine lv_aload_n C.1 C.2.1 dX7_rate_12 rfl (lv_at hl 0 rfl) ?_
    refine g_getR C w fl_X7_28 sth kth (by decide) kt_7_2 (fun _ _ _ => rfl) dX7_rate_13 (fun s1 k1 => ?_)
    refine lv_iload_n C.1 C.2.1 dX7_rate_16 rfl (lv_at hl 1 rfl) ?_
    obtain ⟨o2, ho2, h⟩ := g_bd h
    refine g_callV (n := 1) (As := [.int a1]) (rest := []) C w (m_X5_rateAt s1 k1 ho2) (cl_5).1 s1 k1 (by decide) ml_X7_132 iy_X5_rateAt sy_X5_rateAt in_X5 cy_X5_rateAt ⟨rfl, by decide +kernel, by decide +kernel, by decide +kernel⟩ rfl ⟨Nat.le_of_ble_eq_true rfl, Nat.le_of_ble_eq_true rfl⟩ rfl (Nat.le_of_ble_eq_true rfl) hl.1 ⟨Nat.le_of_ble_eq_true rfl, Nat.le_of_ble_eq_true rfl⟩ dX7_rate_17 (fun H locs w => ?_)
    exact g_iretX C w hr dX7_rate_20 h (fun _ => rfl) (Nat.le_of_ble_eq_true rfl) (Nat.le_of_ble_eq_true rfl)
  · have h := (if_neg hc).symm.trans h
    exact g_throwE C w hfl tw_IllegalArgumentException hex hl.1 dX7_rate_4 dX7_rate_7 dX7_rate_8 dX7_rate_11 (Nat.le_of_ble_eq_true rfl) (Nat.le_of_ble_eq_true rfl) (Nat.le_of_ble_eq_true rfl) (Nat.le_of_ble_eq_true rfl) (Nat.le_of_ble_eq_true rfl) (Nat.le_of_ble_eq_true rfl) (fun _ => rfl) h

set_option maxHeartbeats 4000000 in
set_option maxRecDepth 100000 in
theorem m_X7_fairness {l : Launch} {D : va_G} {cA : Nat → ClassId} {B : Nat} {S : Nat → Prop} {σ : GS} {th : Nat} {o : UInt64} (sth : S th) (kth : kdG th = 7) (h0 : F_X7_fairness σ th = some o) : MF l yX7_fairness cX7_fairness 11 (some .double) 0 0 D cA B S [.ref (B + th)] σ σ (some (.double o)) := by
  refine MF.of (by decide +kernel) (Nat.le_of_ble_eq_true rfl) ?_
  intro p e s m args below meth c C hr w ls hl
  have hl : lv_has ls 11 [(0, .ref (B + th))] := hl
  have B_21 : ∀ (n21 : Nat) (v1 : UInt64) (v3 : UInt64) (v7 : Int32) (H : Heap) (locs : List Loc) (ls : Array Slot), L_X7_fairness_21 th n21 σ v1 v3 v7 = some o → S (rfG (rfG th 2) 2) → kdG (rfG (rfG th 2) 2) = 13 → WS D cA B S σ s H locs → lv_has ls 11 [(0, .ref (B + th)), (1, .double v1), (3, .double v3), (5, .ref (B + (rfG (rfG th 2) 2))), (6, .int (nI (lnG (rfG (rfG th 2) 2)))), (7, .int v7)] → W p l e (rmF 0 0) s m args below meth c H locs 0 0 (MQ below (QF D cA B S σ (some (.double o))) args s 0 0 (AB B S)) (F0 m 21 ls []) := by
    intro n21
    induction n21 with
    | zero => intro  v1 v3 v7 H locs ls h; exact nomatch (show (none : Option (UInt64)) = some o from h)
    | succ n21 ih21 =>
      intro  v1 v3 v7 H locs ls h s2 k2 w hl
      unfold L_X7_fairness_21 at h
      refine lv_iload C.1 C.2.1 dX7_fairness_21 (lv_at hl 5 rfl) ?_
      refine lv_iload C.1 C.2.1 dX7_fairness_23 (lv_at hl 4 rfl) ?_
      refine lv_icmp_ge (tgt := 77) C.1 C.2.1 dX7_fairness_25 (by decide) (fun hc => ?_) (fun hc => ?_)
      · have h := (if_pos hc).symm.trans h
        refine lv_dload_n C.1 C.2.1 dX7_fairness_77 rfl (lv_at hl 2 rfl) ?_
        refine lv_dconst0 C.1 C.2.1 dX7_fairness_78 ?_
        refine lv_dcmp C.1 C.2.1 dX7_fairness_79 ?_
        refine lv_if_le (tgt := 110) C.1 C.2.1 dX7_fairness_80 (by decide) (fun hc => ?_) (fun hc => ?_)
        · have h := (if_pos hc).symm.trans h
          refine lv_dconst1 C.1 C.2.1 dX7_fairness_110 ?_
          exact g_dretP C w hr dX7_fairness_111 h
        · have h := (if_neg hc).symm.trans h
          refine lv_aload_n C.1 C.2.1 dX7_fairness_83 rfl (lv_at hl 0 rfl) ?_
          refine g_getR C w fl_X7_19 sth kth (by decide) kt_7_1 (fun _ _ _ => rfl) dX7_fairness_84 (fun s3 k3 => ?_)
          refine g_getI C w fl_X7_90 s3 k3 (by decide) (fun _ _ _ => rfl) dX7_fairness_87 ?_
          refine lv_if_le (tgt := 110) C.1 C.2.1 dX7_fairness_90 (by decide) (fun hc => ?_) (fun hc => ?_)
          · have h := (if_pos hc).symm.trans h
            refine lv_dconst1 C.1 C.2.1 dX7_fairness_110 ?_
            exact g_dretP C w hr dX7_fairness_111 h
          · have h := (if_neg hc).symm.trans h
            refine lv_dload_n C.1 C.2.1 dX7_fairness_93 rfl (lv_at hl 1 rfl) ?_
            refine lv_dload_n C.1 C.2.1 dX7_fairness_94 rfl (lv_at hl 1 rfl) ?_
            obtain ⟨hb, h⟩ := g_ob h
            refine lv_dmul C.1 C.2.1 dX7_fairness_95 hb ?_
            refine lv_aload_n C.1 C.2.1 dX7_fairness_96 rfl (lv_at hl 0 rfl) ?_
            refine g_getR C w fl_X7_19 sth kth (by decide) kt_7_1 (fun _ _ _ => rfl) dX7_fairness_97 (fun s4 k4 => ?_)
            refine g_getI C w fl_X7_90 s4 k4 (by decide) (fun _ _ _ => rfl) dX7_fairness_100 ?_
            refine lv_i2d C.1 C.2.1 dX7_fairness_103 ?_
            refine lv_dload_n C.1 C.2.1 dX7_fairness_104 rfl (lv_at hl 2 rfl) ?_
            obtain ⟨hb, h⟩ := g_ob h
            refine lv_dmul C.1 C.2.1 dX7_fairness_105 hb ?_
            obtain ⟨hb, h⟩ := g_ob h
            refine lv_ddiv C.1 C.2.1 dX7_fairness_106 hb ?_
            refine lv_goto (tgt := 111) C.1 C.2.1 dX7_fairness_107 (by decide) ?_
            exact g_dretP C w hr dX7_fairness_111 h
      · have h := (if_neg hc).symm.trans h
        refine lv_aload C.1 C.2.1 dX7_fairness_28 (lv_at hl 3 rfl) ?_
        refine lv_iload C.1 C.2.1 dX7_fairness_30 (lv_at hl 5 rfl) ?_
        obtain ⟨hb, h⟩ := g_ob h
        refine g_aald C w s2 k2 (by decide) (by decide) rfl rfl (fun _ _ _ _ => rfl) kr_13 hb dX7_fairness_32 (fun s5 k5 => ?_)
        refine lv_astore (lv' := [(8, .ref (B + (rfG (rfG (rfG th 2) 2) v7.toNatClampNeg))), (0, .ref (B + th)), (1, .double v1), (3, .double v3), (5, .ref (B + (rfG (rfG th 2) 2))), (6, .int (nI (lnG (rfG (rfG th 2) 2)))), (7, .int v7)]) C.1 C.2.1 dX7_fairness_33 hl (by decide) rfl (fun ls hl => ?_)
        refine lv_aload C.1 C.2.1 dX7_fairness_35 (lv_at hl 0 rfl) ?_
        refine g_getI C w fl_X7_178 s5 k5 (by decide) (fun _ _ _ => rfl) dX7_fairness_37 ?_
        refine lv_if_le (tgt := 71) C.1 C.2.1 dX7_fairness_40 (by decide) (fun hc => ?_) (fun hc => ?_)
        · have h := (if_pos hc).symm.trans h
          refine lv_iinc (k := 6) (v := v7 + 1) (lv' := [(7, .int (v7 + 1)), (8, .ref (B + (rfG (rfG (rfG th 2) 2) v7.toNatClampNeg))), (0, .ref (B + th)), (1, .double v1), (3, .double v3), (5, .ref (B + (rfG (rfG th 2) 2))), (6, .int (nI (lnG (rfG (rfG th 2) 2))))]) C.1 C.2.1 dX7_fairness_71 hl rfl rfl (by decide) rfl (fun ls hl => ?_)
          refine lv_goto (tgt := 21) C.1 C.2.1 dX7_fairness_74 (by decide) ?_
          exact ih21 _ _ _ _ _ _ h s2 k2 w (show lv_has ls 11 [(0, .ref (B + th)), (1, .double v1), (3, .double v3), (5, .ref (B + (rfG (rfG th 2) 2))), (6, .int (nI (lnG (rfG (rfG th 2) 2)))), (7, .int (v7 + 1))] from lv_sub hl [2, 3, 4, 5, 6, 0] rfl)
        · have h := (if_neg hc).symm.trans h
          refine lv_aload C.1 C.2.1 dX7_fairness_43 (lv_at hl 0 rfl) ?_
          refine g_getI C w fl_X7_169 s5 k5 (by decide) (fun _ _ _ => rfl) dX7_fairness_45 ?_
          refine lv_i2d C.1 C.2.1 dX7_fairness_48 ?_
          refine lv_aload C.1 C.2.1 dX7_fairness_49 (lv_at hl 0 rfl) ?_
          refine g_getI C w fl_X7_178 s5 k5 (by decide) (fun _ _ _ => rfl) dX7_fairness_51 ?_
          refine lv_i2d C.1 C.2.1 dX7_fairness_54 ?_
          obtain ⟨hb, h⟩ := g_ob h
          refine lv_ddiv C.1 C.2.1 dX7_fairness_55 hb ?_
          refine lv_dstore (lv' := [(9, .double (FP.ddiv (FP.i2d (gI σ (rfG (rfG (rfG th 2) 2) v7.toNatClampNeg) 16)) (FP.i2d (gI σ (rfG (rfG (rfG th 2) 2) v7.toNatClampNeg) 7)))), (8, .ref (B + (rfG (rfG (rfG th 2) 2) v7.toNatClampNeg))), (0, .ref (B + th)), (1, .double v1), (3, .double v3), (5, .ref (B + (rfG (rfG th 2) 2))), (6, .int (nI (lnG (rfG (rfG th 2) 2)))), (7, .int v7)]) C.1 C.2.1 dX7_fairness_56 hl (by decide) rfl (fun ls hl => ?_)
          refine lv_dload_n C.1 C.2.1 dX7_fairness_58 rfl (lv_at hl 3 rfl) ?_
          refine lv_dload C.1 C.2.1 dX7_fairness_59 (lv_at hl 0 rfl) ?_
          obtain ⟨hb, h⟩ := g_ob h
          refine lv_dadd C.1 C.2.1 dX7_fairness_61 hb ?_
          refine lv_dstore_n (lv' := [(1, .double (FP.dadd v1 (FP.ddiv (FP.i2d (gI σ (rfG (rfG (rfG th 2) 2) v7.toNatClampNeg) 16)) (FP.i2d (gI σ (rfG (rfG (rfG th 2) 2) v7.toNatClampNeg) 7))))), (9, .double (FP.ddiv (FP.i2d (gI σ (rfG (rfG (rfG th 2) 2) v7.toNatClampNeg) 16)) (FP.i2d (gI σ (rfG (rfG (rfG th 2) 2) v7.toNatClampNeg) 7)))), (8, .ref (B + (rfG (rfG (rfG th 2) 2) v7.toNatClampNeg))), (0, .ref (B + th)), (3, .double v3), (5, .ref (B + (rfG (rfG th 2) 2))), (6, .int (nI (lnG (rfG (rfG th 2) 2)))), (7, .int v7)]) C.1 C.2.1 dX7_fairness_62 rfl hl (by decide) rfl (fun ls hl => ?_)
          refine lv_dload_n C.1 C.2.1 dX7_fairness_63 rfl (lv_at hl 4 rfl) ?_
          refine lv_dload C.1 C.2.1 dX7_fairness_64 (lv_at hl 1 rfl) ?_
          refine lv_dload C.1 C.2.1 dX7_fairness_66 (lv_at hl 1 rfl) ?_
          obtain ⟨hb, h⟩ := g_ob h
          refine lv_dmul C.1 C.2.1 dX7_fairness_68 hb ?_
          obtain ⟨hb, h⟩ := g_ob h
          refine lv_dadd C.1 C.2.1 dX7_fairness_69 hb ?_
          refine lv_dstore_n (lv' := [(3, .double (FP.dadd v3 (FP.dmul (FP.ddiv (FP.i2d (gI σ (rfG (rfG (rfG th 2) 2) v7.toNatClampNeg) 16)) (FP.i2d (gI σ (rfG (rfG (rfG th 2) 2) v7.toNatClampNeg) 7))) (FP.ddiv (FP.i2d (gI σ (rfG (rfG (rfG th 2) 2) v7.toNatClampNeg) 16)) (FP.i2d (gI σ (rfG (rfG (rfG th 2) 2) v7.toNatClampNeg) 7)))))), (1, .double (FP.dadd v1 (FP.ddiv (FP.i2d (gI σ (rfG (rfG (rfG th 2) 2) v7.toNatClampNeg) 16)) (FP.i2d (gI σ (rfG (rfG (rfG th 2) 2) v7.toNatClampNeg) 7))))), (9, .double (FP.ddiv (FP.i2d (gI σ (rfG (rfG (rfG th 2) 2) v7.toNatClampNeg) 16)) (FP.i2d (gI σ (rfG (rfG (rfG th 2) 2) v7.toNatClampNeg) 7)))), (8, .ref (B + (rfG (rfG (rfG th 2) 2) v7.toNatClampNeg))), (0, .ref (B + th)), (5, .ref (B + (rfG (rfG th 2) 2))), (6, .int (nI (lnG (rfG (rfG th 2) 2)))), (7, .int v7)]) C.1 C.2.1 dX7_fairness_70 rfl hl (by decide) rfl (fun ls hl => ?_)
          refine lv_iinc (k := 7) (v := v7 + 1) (lv' := [(7, .int (v7 + 1)), (3, .double (FP.dadd v3 (FP.dmul (FP.ddiv (FP.i2d (gI σ (rfG (rfG (rfG th 2) 2) v7.toNatClampNeg) 16)) (FP.i2d (gI σ (rfG (rfG (rfG th 2) 2) v7.toNatClampNeg) 7))) (FP.ddiv (FP.i2d (gI σ (rfG (rfG (rfG th 2) 2) v7.toNatClampNeg) 16)) (FP.i2d (gI σ (rfG (rfG (rfG th 2) 2) v7.toNatClampNeg) 7)))))), (1, .double (FP.dadd v1 (FP.ddiv (FP.i2d (gI σ (rfG (rfG (rfG th 2) 2) v7.toNatClampNeg) 16)) (FP.i2d (gI σ (rfG (rfG (rfG th 2) 2) v7.toNatClampNeg) 7))))), (9, .double (FP.ddiv (FP.i2d (gI σ (rfG (rfG (rfG th 2) 2) v7.toNatClampNeg) 16)) (FP.i2d (gI σ (rfG (rfG (rfG th 2) 2) v7.toNatClampNeg) 7)))), (8, .ref (B + (rfG (rfG (rfG th 2) 2) v7.toNatClampNeg))), (0, .ref (B + th)), (5, .ref (B + (rfG (rfG th 2) 2))), (6, .int (nI (lnG (rfG (rfG th 2) 2))))]) C.1 C.2.1 dX7_fairness_71 hl rfl rfl (by decide) rfl (fun ls hl => ?_)
          refine lv_goto (tgt := 21) C.1 C.2.1 dX7_fairness_74 (by decide) ?_
          exact ih21 _ _ _ _ _ _ h s2 k2 w (show lv_has ls 11 [(0, .ref (B + th)), (1, .double (FP.dadd v1 (FP.ddiv (FP.i2d (gI σ (rfG (rfG (rfG th 2) 2) v7.toNatClampNeg) 16)) (FP.i2d (gI σ (rfG (rfG (rfG th 2) 2) v7.toNatClampNeg) 7))))), (3, .double (FP.dadd v3 (FP.dmul (FP.ddiv (FP.i2d (gI σ (rfG (rfG (rfG th 2) 2) v7.toNatClampNeg) 16)) (FP.i2d (gI σ (rfG (rfG (rfG th 2) 2) v7.toNatClampNeg) 7))) (FP.ddiv (FP.i2d (gI σ (rfG (rfG (rfG th 2) 2) v7.toNatClampNeg) 16)) (FP.i2d (gI σ (rfG (rfG (rfG th 2) 2) v7.toNatClampNeg) 7)))))), (5, .ref (B + (rfG (rfG th 2) 2))), (6, .int (nI (lnG (rfG (rfG th 2) 2)))), (7, .int (v7 + 1))] from lv_sub hl [5, 2, 1, 6, 7, 0] rfl)
  have h := h0
  unfold F_X7_fairness at h
  refine lv_dconst0 C.1 C.2.1 dX7_fairness_0 ?_
  refine lv_dstore_n (lv' := [(1, .double FP.dconst0), (0, .ref (B + th))]) C.1 C.2.1 dX7_fairness_1 rfl hl (by decide) rfl (fun ls hl => ?_)
  refine lv_dconst0 C.1 C.2.1 dX7_fairness_2 ?_
  refine lv_dstore_n (lv' := [(3, .double FP.dconst0), (1, .double FP.dconst0), (0, .ref (B + th))]) C.1 C.2.1 dX7_fairness_3 rfl hl (by decide) rfl (fun ls hl => ?_)
  refine lv_aload_n C.1 C.2.1 dX7_fairness_4 rfl (lv_at hl 2 rfl) ?_
  refine g_getR C w fl_X7_28 sth kth (by decide) kt_7_2 (fun _ _ _ => rfl) dX7_fairness_5 (fun s1 k1 => ?_)
  refine g_getR C w fl_X7_247 s1 k1 (by decide) kt_5_2 (fun _ _ _ => rfl) dX7_fairness_8 (fun s2 k2 => ?_)
  refine lv_astore (lv' := [(5, .ref (B + (rfG (rfG th 2) 2))), (3, .double FP.dconst0), (1, .double FP.dconst0), (0, .ref (B + th))]) C.1 C.2.1 dX7_fairness_11 hl (by decide) rfl (fun ls hl => ?_)
  refine lv_aload C.1 C.2.1 dX7_fairness_13 (lv_at hl 0 rfl) ?_
  refine g_alen C w s2 k2 (by decide) (by decide) dX7_fairness_15 ?_
  refine lv_istore (lv' := [(6, .int (nI (lnG (rfG (rfG th 2) 2)))), (5, .ref (B + (rfG (rfG th 2) 2))), (3, .double FP.dconst0), (1, .double FP.dconst0), (0, .ref (B + th))]) C.1 C.2.1 dX7_fairness_16 hl (by decide) rfl (fun ls hl => ?_)
  refine lv_iconst (v := 0) C.1 C.2.1 dX7_fairness_18 (by decide) ?_
  refine lv_istore (lv' := [(7, .int 0), (6, .int (nI (lnG (rfG (rfG th 2) 2)))), (5, .ref (B + (rfG (rfG th 2) 2))), (3, .double FP.dconst0), (1, .double FP.dconst0), (0, .ref (B + th))]) C.1 C.2.1 dX7_fairness_19 hl (by decide) rfl (fun ls hl => ?_)
  exact B_21 _ _ _ _ _ _ _ h s2 k2 w (show lv_has ls 11 [(0, .ref (B + th)), (1, .double FP.dconst0), (3, .double FP.dconst0), (5, .ref (B + (rfG (rfG th 2) 2))), (6, .int (nI (lnG (rfG (rfG th 2) 2)))), (7, .int 0)] from lv_sub hl [5, 4, 3, 2, 1, 0] rfl)

set_option maxHeartbeats 4000000 in
set_option maxRecDepth 100000 in
theorem m_X7_account {l : Launch} (hfl : l.stackTraces = false) {D : va_G} {cA : Nat → ClassId} {B : Nat} {S : Nat → Prop} {σ : GS} {th : Nat} {a1 : Int32} {o : GS × (String ⊕ Int32)} (sth : S th) (kth : kdG th = 7) (h0 : F_X7_account σ th a1 = some o) : MX l yX7_account cX7_account 2 (some .int) 6 89 1 D cA B S [.ref (B + th), .int a1] σ o.1 (mRi o.2) := by
  refine MX.of (by decide +kernel) (Nat.le_of_ble_eq_true rfl) ?_
  intro p e s m args below meth c C hr hex w ls hl
  have hl : lv_has ls 2 [(0, .ref (B + th)), (1, .int a1)] := hl
  have h := h0
  unfold F_X7_account at h
  refine lv_iload_n C.1 C.2.1 dX7_account_0 rfl (lv_at hl 1 rfl) ?_
  by_cases hc0 : a1 = 0
  · have h := (if_pos hc0).symm.trans h
    refine lv_tableIn (off := 31) (tgt := 32) C.1 C.2.1 dX7_account_1 (by rw [hc0]; decide) (by rw [hc0]; decide) (by rw [hc0]; decide) (by decide) ?_
    refine lv_aload_n C.1 C.2.1 dX7_account_32 rfl (lv_at hl 0 rfl) ?_
    refine g_getR C w fl_X7_28 sth kth (by decide) kt_7_2 (fun _ _ _ => rfl) dX7_account_33 (fun s1 k1 => ?_)
    refine g_getI C w fl_X7_253 s1 k1 (by decide) (fun _ _ _ => rfl) dX7_account_36 ?_
    exact g_iretX C w hr dX7_account_39 h (fun _ => rfl) (Nat.le_of_ble_eq_true rfl) (Nat.le_of_ble_eq_true rfl)
  have h := (if_neg hc0).symm.trans h
  by_cases hc1 : a1 = 1
  · have h := (if_pos hc1).symm.trans h
    refine lv_tableIn (off := 39) (tgt := 40) C.1 C.2.1 dX7_account_1 (by rw [hc1]; decide) (by rw [hc1]; decide) (by rw [hc1]; decide) (by decide) ?_
    refine lv_aload_n C.1 C.2.1 dX7_account_40 rfl (lv_at hl 0 rfl) ?_
    refine g_getR C w fl_X7_28 sth kth (by decide) kt_7_2 (fun _ _ _ => rfl) dX7_account_41 (fun s2 k2 => ?_)
    refine g_getI C w fl_X7_256 s2 k2 (by decide) (fun _ _ _ => rfl) dX7_account_44 ?_
    exact g_iretX C w hr dX7_account_47 h (fun _ => rfl) (Nat.le_of_ble_eq_true rfl) (Nat.le_of_ble_eq_true rfl)
  have h := (if_neg hc1).symm.trans h
  by_cases hc2 : a1 = 2
  · have h := (if_pos hc2).symm.trans h
    refine lv_tableIn (off := 47) (tgt := 48) C.1 C.2.1 dX7_account_1 (by rw [hc2]; decide) (by rw [hc2]; decide) (by rw [hc2]; decide) (by decide) ?_
    refine lv_aload_n C.1 C.2.1 dX7_account_48 rfl (lv_at hl 0 rfl) ?_
    refine g_getR C w fl_X7_28 sth kth (by decide) kt_7_2 (fun _ _ _ => rfl) dX7_account_49 (fun s3 k3 => ?_)
    obtain ⟨o4, ho4, h⟩ := g_bd h
    refine g_callV (n := 0) (As := []) (rest := []) C w (m_X5_ticksStalled s3 k3 ho4) (cl_5).1 s3 k3 (by decide) ml_X7_259 iy_X5_ticksStalled sy_X5_ticksStalled in_X5 cy_X5_ticksStalled ⟨rfl, by decide +kernel, by decide +kernel, by decide +kernel⟩ rfl ⟨Nat.le_of_ble_eq_true rfl, Nat.le_of_ble_eq_true rfl⟩ rfl (Nat.le_of_ble_eq_true rfl) hl.1 ⟨Nat.le_of_ble_eq_true rfl, Nat.le_of_ble_eq_true rfl⟩ dX7_account_52 (fun H locs w => ?_)
    exact g_iretX C w hr dX7_account_55 h (fun _ => rfl) (Nat.le_of_ble_eq_true rfl) (Nat.le_of_ble_eq_true rfl)
  have h := (if_neg hc2).symm.trans h
  by_cases hc3 : a1 = 3
  · have h := (if_pos hc3).symm.trans h
    refine lv_tableIn (off := 55) (tgt := 56) C.1 C.2.1 dX7_account_1 (by rw [hc3]; decide) (by rw [hc3]; decide) (by rw [hc3]; decide) (by decide) ?_
    refine lv_aload_n C.1 C.2.1 dX7_account_56 rfl (lv_at hl 0 rfl) ?_
    refine g_getR C w fl_X7_28 sth kth (by decide) kt_7_2 (fun _ _ _ => rfl) dX7_account_57 (fun s5 k5 => ?_)
    obtain ⟨o6, ho6, h⟩ := g_bd h
    refine g_callV (n := 0) (As := []) (rest := []) C w (m_X5_segmentsCome s5 k5 ho6) (cl_5).1 s5 k5 (by decide) ml_X7_262 iy_X5_segmentsCome sy_X5_segmentsCome in_X5 cy_X5_segmentsCome ⟨rfl, by decide +kernel, by decide +kernel, by decide +kernel⟩ rfl ⟨Nat.le_of_ble_eq_true rfl, Nat.le_of_ble_eq_true rfl⟩ rfl (Nat.le_of_ble_eq_true rfl) hl.1 ⟨Nat.le_of_ble_eq_true rfl, Nat.le_of_ble_eq_true rfl⟩ dX7_account_60 (fun H locs w => ?_)
    exact g_iretX C w hr dX7_account_63 h (fun _ => rfl) (Nat.le_of_ble_eq_true rfl) (Nat.le_of_ble_eq_true rfl)
  have h := (if_neg hc3).symm.trans h
  refine lv_tableOut (tgt := 64) C.1 C.2.1 dX7_account_1 (g_sw0_3 hc0 hc1 hc2 hc3) (by decide) ?_
  exact g_throwE C w hfl tw_IllegalArgumentException hex hl.1 dX7_account_64 dX7_account_67 dX7_account_68 dX7_account_71 (Nat.le_of_ble_eq_true rfl) (Nat.le_of_ble_eq_true rfl) (Nat.le_of_ble_eq_true rfl) (Nat.le_of_ble_eq_true rfl) (Nat.le_of_ble_eq_true rfl) (Nat.le_of_ble_eq_true rfl) (fun _ => rfl) h

set_option maxHeartbeats 4000000 in
set_option maxRecDepth 100000 in
theorem m_X7_testPlayer {l : Launch} (hfl : l.stackTraces = false) {D : va_G} {cA : Nat → ClassId} {B : Nat} {S : Nat → Prop} {σ : GS} {th : Nat} {a1 : Int32} {o : GS × (String ⊕ Unit)} (sth : S th) (kth : kdG th = 7) (h0 : F_X7_testPlayer σ th a1 = some o) : MX l yX7_testPlayer cX7_testPlayer 2 none 6 89 1 D cA B S [.ref (B + th), .int a1] σ o.1 (mRv o.2) := by
  refine MX.of (by decide +kernel) (Nat.le_of_ble_eq_true rfl) ?_
  intro p e s m args below meth c C hr hex w ls hl
  have hl : lv_has ls 2 [(0, .ref (B + th)), (1, .int a1)] := hl
  have h := h0
  unfold F_X7_testPlayer at h
  refine lv_iload_n C.1 C.2.1 dX7_testPlayer_0 rfl (lv_at hl 1 rfl) ?_
  refine lv_if_lt (tgt := 15) C.1 C.2.1 dX7_testPlayer_1 (by decide) (fun hc => ?_) (fun hc => ?_)
  · have h := (if_pos hc).symm.trans h
    exact g_throwE C w hfl tw_IndexOutOfBoundsException hex hl.1 dX7_testPlayer_15 dX7_testPlayer_18 dX7_testPlayer_19 dX7_testPlayer_22 (Nat.le_of_ble_eq_true rfl) (Nat.le_of_ble_eq_true rfl) (Nat.le_of_ble_eq_true rfl) (Nat.le_of_ble_eq_true rfl) (Nat.le_of_ble_eq_true rfl) (Nat.le_of_ble_eq_true rfl) (fun _ => rfl) h
  · have h := (if_neg hc).symm.trans h
    refine lv_iload_n C.1 C.2.1 dX7_testPlayer_4 rfl (lv_at hl 1 rfl) ?_
    refine lv_aload_n C.1 C.2.1 dX7_testPlayer_5 rfl (lv_at hl 0 rfl) ?_
    refine g_getR C w fl_X7_19 sth kth (by decide) kt_7_1 (fun _ _ _ => rfl) dX7_testPlayer_6 (fun s1 k1 => ?_)
    refine g_getI C w fl_X7_90 s1 k1 (by decide) (fun _ _ _ => rfl) dX7_testPlayer_9 ?_
    refine lv_icmp_lt (tgt := 23) C.1 C.2.1 dX7_testPlayer_12 (by decide) (fun hc => ?_) (fun hc => ?_)
    · have h := (if_pos hc).symm.trans h
      exact g_vretX C w hr dX7_testPlayer_23 h (fun _ => rfl) (Nat.le_of_ble_eq_true rfl) (Nat.le_of_ble_eq_true rfl)
    · have h := (if_neg hc).symm.trans h
      exact g_throwE C w hfl tw_IndexOutOfBoundsException hex hl.1 dX7_testPlayer_15 dX7_testPlayer_18 dX7_testPlayer_19 dX7_testPlayer_22 (Nat.le_of_ble_eq_true rfl) (Nat.le_of_ble_eq_true rfl) (Nat.le_of_ble_eq_true rfl) (Nat.le_of_ble_eq_true rfl) (Nat.le_of_ble_eq_true rfl) (Nat.le_of_ble_eq_true rfl) (fun _ => rfl) h

set_option maxHeartbeats 4000000 in
set_option maxRecDepth 100000 in
theorem m_X7_seatOf {l : Launch} (hfl : l.stackTraces = false) {D : va_G} {cA : Nat → ClassId} {B : Nat} {S : Nat → Prop} {σ : GS} {th : Nat} {a1 : Int32} {o : GS × (String ⊕ Nat)} (sth : S th) (kth : kdG th = 7) (h0 : F_X7_seatOf σ th a1 = some o) : MX l yX7_seatOf cX7_seatOf 2 (some (.object "SharedLink$Player")) 7 110 1 D cA B S [.ref (B + th), .int a1] σ o.1 (mRr B o.2) := by
  refine MX.of (by decide +kernel) (Nat.le_of_ble_eq_true rfl) ?_
  intro p e s m args below meth c C hr hex w ls hl
  have hl : lv_has ls 2 [(0, .ref (B + th)), (1, .int a1)] := hl
  have h := h0
  unfold F_X7_seatOf at h
  refine lv_aload_n C.1 C.2.1 dX7_seatOf_0 rfl (lv_at hl 0 rfl) ?_
  refine lv_iload_n C.1 C.2.1 dX7_seatOf_1 rfl (lv_at hl 1 rfl) ?_
  obtain ⟨o1, ho1, h⟩ := g_bd h
  obtain ⟨σ3, r9⟩ := o1
  rcases r9 with E9 | _x
  · refine g_callVX (n := 1) (As := [.int a1]) (rest := []) C w (m_X7_testPlayer hfl sth kth ho1) (cl_7).1 sth kth (by decide) ml_X7_222 iy_X7_testPlayer sy_X7_testPlayer in_X7 cy_X7_testPlayer ⟨rfl, by decide +kernel, by decide +kernel, by decide +kernel⟩ rfl ⟨Nat.le_of_ble_eq_true rfl, Nat.le_of_ble_eq_true rfl⟩ rfl (Nat.le_of_ble_eq_true rfl) hl.1 ⟨Nat.le_of_ble_eq_true rfl, Nat.le_of_ble_eq_true rfl⟩ dX7_seatOf_2 (fun E ce q H locs e9 w h1 h2 h3 => ?_) (fun v H locs e9 w => nomatch e9)
    exact g_outE C w hex (Sum.inl.inj e9) h1 h2 h3 (Nat.le_of_ble_eq_true rfl) (Nat.le_of_ble_eq_true rfl) (fun _ => rfl) h
  refine g_callVX (n := 1) (As := [.int a1]) (rest := []) C w (m_X7_testPlayer hfl sth kth ho1) (cl_7).1 sth kth (by decide) ml_X7_222 iy_X7_testPlayer sy_X7_testPlayer in_X7 cy_X7_testPlayer ⟨rfl, by decide +kernel, by decide +kernel, by decide +kernel⟩ rfl ⟨Nat.le_of_ble_eq_true rfl, Nat.le_of_ble_eq_true rfl⟩ rfl (Nat.le_of_ble_eq_true rfl) hl.1 ⟨Nat.le_of_ble_eq_true rfl, Nat.le_of_ble_eq_true rfl⟩ dX7_seatOf_2 (fun E ce q H locs e9 w h1 h2 h3 => nomatch e9) (fun v H locs e9 w => ?_)
  cases Sum.inr.inj e9
  refine lv_aload_n C.1 C.2.1 dX7_seatOf_5 rfl (lv_at hl 0 rfl) ?_
  refine g_getR C w fl_X7_28 sth kth (by decide) kt_7_2 (fun _ _ _ => rfl) dX7_seatOf_6 (fun s4 k4 => ?_)
  refine lv_iload_n C.1 C.2.1 dX7_seatOf_9 rfl (lv_at hl 1 rfl) ?_
  obtain ⟨o5, ho5, h⟩ := g_bd h
  refine g_callV (n := 1) (As := [.int a1]) (rest := []) C w (m_X5_seat s4 k4 ho5) (cl_5).1 s4 k4 (by decide) ml_X7_219 iy_X5_seat sy_X5_seat in_X5 cy_X5_seat ⟨rfl, by decide +kernel, by decide +kernel, by decide +kernel⟩ rfl ⟨Nat.le_of_ble_eq_true rfl, Nat.le_of_ble_eq_true rfl⟩ rfl (Nat.le_of_ble_eq_true rfl) hl.1 ⟨Nat.le_of_ble_eq_true rfl, Nat.le_of_ble_eq_true rfl⟩ dX7_seatOf_10 (fun H locs w => ?_)
  have ⟨s6, k6⟩ := r_X5_seat w.2.1 s4 k4 ho5
  exact g_aretX C w hr (Or.inl ⟨_, rfl⟩) dX7_seatOf_13 h (fun _ => rfl) (Nat.le_of_ble_eq_true rfl) (Nat.le_of_ble_eq_true rfl)

set_option maxHeartbeats 4000000 in
set_option maxRecDepth 100000 in
theorem m_X7_testSlot {l : Launch} (hfl : l.stackTraces = false) {D : va_G} {cA : Nat → ClassId} {B : Nat} {S : Nat → Prop} {σ : GS} {th : Nat} {a1 : Int32} {o : GS × (String ⊕ Unit)} (sth : S th) (kth : kdG th = 7) (h0 : F_X7_testSlot σ th a1 = some o) : MX l yX7_testSlot cX7_testSlot 2 none 6 89 1 D cA B S [.ref (B + th), .int a1] σ o.1 (mRv o.2) := by
  refine MX.of (by decide +kernel) (Nat.le_of_ble_eq_true rfl) ?_
  intro p e s m args below meth c C hr hex w ls hl
  have hl : lv_has ls 2 [(0, .ref (B + th)), (1, .int a1)] := hl
  have h := h0
  unfold F_X7_testSlot at h
  refine lv_iload_n C.1 C.2.1 dX7_testSlot_0 rfl (lv_at hl 1 rfl) ?_
  refine lv_if_lt (tgt := 22) C.1 C.2.1 dX7_testSlot_1 (by decide) (fun hc => ?_) (fun hc => ?_)
  · have h := (if_pos hc).symm.trans h
    exact g_throwE C w hfl tw_IndexOutOfBoundsException hex hl.1 dX7_testSlot_22 dX7_testSlot_25 dX7_testSlot_26 dX7_testSlot_29 (Nat.le_of_ble_eq_true rfl) (Nat.le_of_ble_eq_true rfl) (Nat.le_of_ble_eq_true rfl) (Nat.le_of_ble_eq_true rfl) (Nat.le_of_ble_eq_true rfl) (Nat.le_of_ble_eq_true rfl) (fun _ => rfl) h
  · have h := (if_neg hc).symm.trans h
    refine lv_iload_n C.1 C.2.1 dX7_testSlot_4 rfl (lv_at hl 1 rfl) ?_
    refine lv_aload_n C.1 C.2.1 dX7_testSlot_5 rfl (lv_at hl 0 rfl) ?_
    refine g_getR C w fl_X7_48 sth kth (by decide) kt_7_5 (fun _ _ _ => rfl) dX7_testSlot_6 (fun s1 k1 => ?_)
    refine g_alen C w s1 k1 (by decide) (by decide) dX7_testSlot_9 ?_
    refine lv_icmp_ge (tgt := 22) C.1 C.2.1 dX7_testSlot_10 (by decide) (fun hc => ?_) (fun hc => ?_)
    · have h := (if_pos hc).symm.trans h
      exact g_throwE C w hfl tw_IndexOutOfBoundsException hex hl.1 dX7_testSlot_22 dX7_testSlot_25 dX7_testSlot_26 dX7_testSlot_29 (Nat.le_of_ble_eq_true rfl) (Nat.le_of_ble_eq_true rfl) (Nat.le_of_ble_eq_true rfl) (Nat.le_of_ble_eq_true rfl) (Nat.le_of_ble_eq_true rfl) (Nat.le_of_ble_eq_true rfl) (fun _ => rfl) h
    · have h := (if_neg hc).symm.trans h
      refine lv_iload_n C.1 C.2.1 dX7_testSlot_13 rfl (lv_at hl 1 rfl) ?_
      refine lv_aload_n C.1 C.2.1 dX7_testSlot_14 rfl (lv_at hl 0 rfl) ?_
      refine g_getR C w fl_X7_52 sth kth (by decide) kt_7_6 (fun _ _ _ => rfl) dX7_testSlot_15 (fun s2 k2 => ?_)
      refine g_alen C w s2 k2 (by decide) (by decide) dX7_testSlot_18 ?_
      refine lv_icmp_lt (tgt := 30) C.1 C.2.1 dX7_testSlot_19 (by decide) (fun hc => ?_) (fun hc => ?_)
      · have h := (if_pos hc).symm.trans h
        exact g_vretX C w hr dX7_testSlot_30 h (fun _ => rfl) (Nat.le_of_ble_eq_true rfl) (Nat.le_of_ble_eq_true rfl)
      · have h := (if_neg hc).symm.trans h
        exact g_throwE C w hfl tw_IndexOutOfBoundsException hex hl.1 dX7_testSlot_22 dX7_testSlot_25 dX7_testSlot_26 dX7_testSlot_29 (Nat.le_of_ble_eq_true rfl) (Nat.le_of_ble_eq_true rfl) (Nat.le_of_ble_eq_true rfl) (Nat.le_of_ble_eq_true rfl) (Nat.le_of_ble_eq_true rfl) (Nat.le_of_ble_eq_true rfl) (fun _ => rfl) h

set_option maxHeartbeats 4000000 in
set_option maxRecDepth 100000 in
theorem m_X7_copyRow {l : Launch} {D : va_G} {cA : Nat → ClassId} {B : Nat} {S : Nat → Prop} {σ : GS} {a1 : Nat} {a2 : Nat} {o : GS} (sa1 : S a1) (ka1 : kdG a1 = 10) (sa2 : S a2) (ka2 : kdG a2 = 10) (h0 : F_X7_copyRow σ a1 a2 = some o) : MF l yX7_copyRow cX7_copyRow 3 none 0 0 D cA B S [.ref (B + a1), .ref (B + a2)] σ o none := by
  refine MF.of (by decide +kernel) (Nat.le_of_ble_eq_true rfl) ?_
  intro p e s m args below meth c C hr w ls hl
  have hl : lv_has ls 3 [(0, .ref (B + a1)), (1, .ref (B + a2))] := hl
  have B_2 : ∀ (n2 : Nat) (σ : GS) (v2 : Int32) (H : Heap) (locs : List Loc) (ls : Array Slot), L_X7_copyRow_2 a1 a2 n2 σ v2 = some o → WS D cA B S σ s H locs → lv_has ls 3 [(0, .ref (B + a1)), (1, .ref (B + a2)), (2, .int v2)] → W p l e (rmF 0 0) s m args below meth c H locs 0 0 (MQ below (QF D cA B S o none) args s 0 0 (AB B S)) (F0 m 2 ls []) := by
    intro n2
    induction n2 with
    | zero => intro σ v2 H locs ls h; exact nomatch (show (none : Option (GS)) = some o from h)
    | succ n2 ih2 =>
      intro σ v2 H locs ls h  w hl
      unfold L_X7_copyRow_2 at h
      refine lv_iload_n C.1 C.2.1 dX7_copyRow_2 rfl (lv_at hl 2 rfl) ?_
      refine lv_aload_n C.1 C.2.1 dX7_copyRow_3 rfl (lv_at hl 0 rfl) ?_
      refine g_alen C w sa1 ka1 (by decide) (by decide) dX7_copyRow_4 ?_
      refine lv_icmp_ge (tgt := 26) C.1 C.2.1 dX7_copyRow_5 (by decide) (fun hc => ?_) (fun hc => ?_)
      · have h := (if_pos hc).symm.trans h
        exact g_vretV C w hr dX7_copyRow_26 h
      · have h := (if_neg hc).symm.trans h
        refine lv_iload_n C.1 C.2.1 dX7_copyRow_8 rfl (lv_at hl 2 rfl) ?_
        refine lv_aload_n C.1 C.2.1 dX7_copyRow_9 rfl (lv_at hl 1 rfl) ?_
        refine g_alen C w sa2 ka2 (by decide) (by decide) dX7_copyRow_10 ?_
        refine lv_icmp_ge (tgt := 26) C.1 C.2.1 dX7_copyRow_11 (by decide) (fun hc => ?_) (fun hc => ?_)
        · have h := (if_pos hc).symm.trans h
          exact g_vretV C w hr dX7_copyRow_26 h
        · have h := (if_neg hc).symm.trans h
          refine lv_aload_n C.1 C.2.1 dX7_copyRow_14 rfl (lv_at hl 1 rfl) ?_
          refine lv_iload_n C.1 C.2.1 dX7_copyRow_15 rfl (lv_at hl 2 rfl) ?_
          refine lv_aload_n C.1 C.2.1 dX7_copyRow_16 rfl (lv_at hl 0 rfl) ?_
          refine lv_iload_n C.1 C.2.1 dX7_copyRow_17 rfl (lv_at hl 2 rfl) ?_
          obtain ⟨hb, h⟩ := g_ob h
          refine g_iald C w sa1 ka1 hb dX7_copyRow_18 ?_
          obtain ⟨hb, h⟩ := g_ob h
          refine g_iast C w sa2 ka2 hb dX7_copyRow_19 (fun H locs w => ?_)
          refine lv_iinc (k := 2) (v := v2 + 1) (lv' := [(2, .int (v2 + 1)), (0, .ref (B + a1)), (1, .ref (B + a2))]) C.1 C.2.1 dX7_copyRow_20 hl rfl rfl (by decide) rfl (fun ls hl => ?_)
          refine lv_goto (tgt := 2) C.1 C.2.1 dX7_copyRow_23 (by decide) ?_
          exact ih2 _ _ _ _ _ h w (show lv_has ls 3 [(0, .ref (B + a1)), (1, .ref (B + a2)), (2, .int (v2 + 1))] from lv_sub hl [1, 2, 0] rfl)
  have h := h0
  unfold F_X7_copyRow at h
  refine lv_iconst (v := 0) C.1 C.2.1 dX7_copyRow_0 (by decide) ?_
  refine lv_istore_n (lv' := [(2, .int 0), (0, .ref (B + a1)), (1, .ref (B + a2))]) C.1 C.2.1 dX7_copyRow_1 rfl hl (by decide) rfl (fun ls hl => ?_)
  exact B_2 _ _ _ _ _ _ h w (show lv_has ls 3 [(0, .ref (B + a1)), (1, .ref (B + a2)), (2, .int 0)] from lv_sub hl [1, 2, 0] rfl)

set_option maxHeartbeats 4000000 in
set_option maxRecDepth 100000 in
theorem m_X7_clearRow {l : Launch} {D : va_G} {cA : Nat → ClassId} {B : Nat} {S : Nat → Prop} {σ : GS} {a1 : Nat} {o : GS} (sa1 : S a1) (ka1 : kdG a1 = 10) (h0 : F_X7_clearRow σ a1 = some o) : MF l yX7_clearRow cX7_clearRow 2 none 0 0 D cA B S [.ref (B + a1)] σ o none := by
  refine MF.of (by decide +kernel) (Nat.le_of_ble_eq_true rfl) ?_
  intro p e s m args below meth c C hr w ls hl
  have hl : lv_has ls 2 [(0, .ref (B + a1))] := hl
  have B_2 : ∀ (n2 : Nat) (σ : GS) (v1 : Int32) (H : Heap) (locs : List Loc) (ls : Array Slot), L_X7_clearRow_2 a1 n2 σ v1 = some o → WS D cA B S σ s H locs → lv_has ls 2 [(0, .ref (B + a1)), (1, .int v1)] → W p l e (rmF 0 0) s m args below meth c H locs 0 0 (MQ below (QF D cA B S o none) args s 0 0 (AB B S)) (F0 m 2 ls []) := by
    intro n2
    induction n2 with
    | zero => intro σ v1 H locs ls h; exact nomatch (show (none : Option (GS)) = some o from h)
    | succ n2 ih2 =>
      intro σ v1 H locs ls h  w hl
      unfold L_X7_clearRow_2 at h
      refine lv_iload_n C.1 C.2.1 dX7_clearRow_2 rfl (lv_at hl 1 rfl) ?_
      refine lv_aload_n C.1 C.2.1 dX7_clearRow_3 rfl (lv_at hl 0 rfl) ?_
      refine g_alen C w sa1 ka1 (by decide) (by decide) dX7_clearRow_4 ?_
      refine lv_icmp_ge (tgt := 18) C.1 C.2.1 dX7_clearRow_5 (by decide) (fun hc => ?_) (fun hc => ?_)
      · have h := (if_pos hc).symm.trans h
        exact g_vretV C w hr dX7_clearRow_18 h
      · have h := (if_neg hc).symm.trans h
        refine lv_aload_n C.1 C.2.1 dX7_clearRow_8 rfl (lv_at hl 0 rfl) ?_
        refine lv_iload_n C.1 C.2.1 dX7_clearRow_9 rfl (lv_at hl 1 rfl) ?_
        refine lv_iconst (v := 0) C.1 C.2.1 dX7_clearRow_10 (by decide) ?_
        obtain ⟨hb, h⟩ := g_ob h
        refine g_iast C w sa1 ka1 hb dX7_clearRow_11 (fun H locs w => ?_)
        refine lv_iinc (k := 1) (v := v1 + 1) (lv' := [(1, .int (v1 + 1)), (0, .ref (B + a1))]) C.1 C.2.1 dX7_clearRow_12 hl rfl rfl (by decide) rfl (fun ls hl => ?_)
        refine lv_goto (tgt := 2) C.1 C.2.1 dX7_clearRow_15 (by decide) ?_
        exact ih2 _ _ _ _ _ h w (show lv_has ls 2 [(0, .ref (B + a1)), (1, .int (v1 + 1))] from lv_sub hl [1, 0] rfl)
  have h := h0
  unfold F_X7_clearRow at h
  refine lv_iconst (v := 0) C.1 C.2.1 dX7_clearRow_0 (by decide) ?_
  refine lv_istore_n (lv' := [(1, .int 0), (0, .ref (B + a1))]) C.1 C.2.1 dX7_clearRow_1 rfl hl (by decide) rfl (fun ls hl => ?_)
  exact B_2 _ _ _ _ _ _ h w (show lv_has ls 2 [(0, .ref (B + a1)), (1, .int 0)] from lv_sub hl [1, 0] rfl)

set_option maxHeartbeats 4000000 in
set_option maxRecDepth 100000 in
theorem m_X8_thrown {l : Launch} {D : va_G} {cA : Nat → ClassId} {B : Nat} {S : Nat → Prop} {σ : GS} {th : Nat} {o : Int32} (sth : S th) (kth : kdG th = 8) (h0 : F_X8_thrown σ th = some o) : MF l yX8_thrown cX8_thrown 1 (some .int) 0 0 D cA B S [.ref (B + th)] σ σ (some (.int o)) := by
  refine MF.of (by decide +kernel) (Nat.le_of_ble_eq_true rfl) ?_
  intro p e s m args below meth c C hr w ls hl
  have hl : lv_has ls 1 [(0, .ref (B + th))] := hl
  have h := h0
  unfold F_X8_thrown at h
  refine lv_aload_n C.1 C.2.1 dX8_thrown_0 rfl (lv_at hl 0 rfl) ?_
  refine g_getI C w fl_X8_71 sth kth (by decide) (fun _ _ _ => rfl) dX8_thrown_1 ?_
  exact g_iretP C w hr dX8_thrown_4 h

set_option maxHeartbeats 4000000 in
set_option maxRecDepth 100000 in
theorem m_X8_within {l : Launch} {D : va_G} {cA : Nat → ClassId} {B : Nat} {S : Nat → Prop} {σ : GS} {a1 : Int32} {a2 : Int32} {a3 : Int32} {o : Int32} (h0 : F_X8_within σ a1 a2 a3 = some o) : MF l yX8_within cX8_within 3 (some .boolean) 0 0 D cA B S [.int a1, .int a2, .int a3] σ σ (some (.int o)) := by
  refine MF.of (by decide +kernel) (Nat.le_of_ble_eq_true rfl) ?_
  intro p e s m args below meth c C hr w ls hl
  have hl : lv_has ls 3 [(0, .int a1), (1, .int a2), (2, .int a3)] := hl
  have h := h0
  unfold F_X8_within at h
  refine lv_iload_n C.1 C.2.1 dX8_within_0 rfl (lv_at hl 0 rfl) ?_
  refine lv_iload_n C.1 C.2.1 dX8_within_1 rfl (lv_at hl 1 rfl) ?_
  refine lv_icmp_lt (tgt := 14) C.1 C.2.1 dX8_within_2 (by decide) (fun hc => ?_) (fun hc => ?_)
  · have h := (if_pos hc).symm.trans h
    refine lv_iconst (v := 0) C.1 C.2.1 dX8_within_14 (by decide) ?_
    exact g_zretP C w hr (by decide) dX8_within_15 h
  · have h := (if_neg hc).symm.trans h
    refine lv_iload_n C.1 C.2.1 dX8_within_5 rfl (lv_at hl 0 rfl) ?_
    refine lv_iload_n C.1 C.2.1 dX8_within_6 rfl (lv_at hl 2 rfl) ?_
    refine lv_icmp_gt (tgt := 14) C.1 C.2.1 dX8_within_7 (by decide) (fun hc => ?_) (fun hc => ?_)
    · have h := (if_pos hc).symm.trans h
      refine lv_iconst (v := 0) C.1 C.2.1 dX8_within_14 (by decide) ?_
      exact g_zretP C w hr (by decide) dX8_within_15 h
    · have h := (if_neg hc).symm.trans h
      refine lv_iconst (v := 1) C.1 C.2.1 dX8_within_10 (by decide) ?_
      refine lv_goto (tgt := 15) C.1 C.2.1 dX8_within_11 (by decide) ?_
      exact g_zretP C w hr (by decide) dX8_within_15 h

set_option maxHeartbeats 4000000 in
set_option maxRecDepth 100000 in
theorem m_X8_throwsIf {l : Launch} {D : va_G} {cA : Nat → ClassId} {B : Nat} {S : Nat → Prop} {σ : GS} {th : Nat} {a1 : Int32} {a2 : Int32} {o : GS × Int32} (sth : S th) (kth : kdG th = 8) (h0 : F_X8_throwsIf σ th a1 a2 = some o) : MF l yX8_throwsIf cX8_throwsIf 3 (some .boolean) 0 0 D cA B S [.ref (B + th), .int a1, .int a2] σ o.1 (some (.int o.2)) := by
  refine MF.of (by decide +kernel) (Nat.le_of_ble_eq_true rfl) ?_
  intro p e s m args below meth c C hr w ls hl
  have hl : lv_has ls 3 [(0, .ref (B + th)), (1, .int a1), (2, .int a2)] := hl
  have h := h0
  unfold F_X8_throwsIf at h
  refine lv_aload_n C.1 C.2.1 dX8_throwsIf_0 rfl (lv_at hl 0 rfl) ?_
  refine g_getI C w fl_X8_71 sth kth (by decide) (fun _ _ _ => rfl) dX8_throwsIf_1 ?_
  refine lv_if_ne (tgt := 16) C.1 C.2.1 dX8_throwsIf_4 (by decide) (fun hc => ?_) (fun hc => ?_)
  · have h := (if_neg hc).symm.trans h
    refine lv_aload_n C.1 C.2.1 dX8_throwsIf_16 rfl (lv_at hl 0 rfl) ?_
    refine g_getI C w fl_X8_71 sth kth (by decide) (fun _ _ _ => rfl) dX8_throwsIf_17 ?_
    refine lv_if_le (tgt := 27) C.1 C.2.1 dX8_throwsIf_20 (by decide) (fun hc => ?_) (fun hc => ?_)
    · have h := (if_pos hc).symm.trans h
      refine lv_iconst (v := 0) C.1 C.2.1 dX8_throwsIf_27 (by decide) ?_
      exact g_zretB C w hr (by decide) dX8_throwsIf_28 h
    · have h := (if_neg hc).symm.trans h
      refine lv_iconst (v := 1) C.1 C.2.1 dX8_throwsIf_23 (by decide) ?_
      refine lv_goto (tgt := 28) C.1 C.2.1 dX8_throwsIf_24 (by decide) ?_
      exact g_zretB C w hr (by decide) dX8_throwsIf_28 h
  · have h := (if_pos hc).symm.trans h
    refine lv_iload_n C.1 C.2.1 dX8_throwsIf_7 rfl (lv_at hl 1 rfl) ?_
    refine lv_if_eq (tgt := 16) C.1 C.2.1 dX8_throwsIf_8 (by decide) (fun hc => ?_) (fun hc => ?_)
    · have h := (if_pos hc).symm.trans h
      refine lv_aload_n C.1 C.2.1 dX8_throwsIf_16 rfl (lv_at hl 0 rfl) ?_
      refine g_getI C w fl_X8_71 sth kth (by decide) (fun _ _ _ => rfl) dX8_throwsIf_17 ?_
      refine lv_if_le (tgt := 27) C.1 C.2.1 dX8_throwsIf_20 (by decide) (fun hc => ?_) (fun hc => ?_)
      · have h := (if_pos hc).symm.trans h
        refine lv_iconst (v := 0) C.1 C.2.1 dX8_throwsIf_27 (by decide) ?_
        exact g_zretB C w hr (by decide) dX8_throwsIf_28 h
      · have h := (if_neg hc).symm.trans h
        refine lv_iconst (v := 1) C.1 C.2.1 dX8_throwsIf_23 (by decide) ?_
        refine lv_goto (tgt := 28) C.1 C.2.1 dX8_throwsIf_24 (by decide) ?_
        exact g_zretB C w hr (by decide) dX8_throwsIf_28 h
    · have h := (if_neg hc).symm.trans h
      refine lv_aload_n C.1 C.2.1 dX8_throwsIf_11 rfl (lv_at hl 0 rfl) ?_
      refine lv_iload_n C.1 C.2.1 dX8_throwsIf_12 rfl (lv_at hl 2 rfl) ?_
      refine g_putI C w fw_X8_71 sth kth (by decide) (fun _ _ _ => rfl) rfl rfl dX8_throwsIf_13 (fun H locs w => ?_)
      refine lv_aload_n C.1 C.2.1 dX8_throwsIf_16 rfl (lv_at hl 0 rfl) ?_
      refine g_getI C w fl_X8_71 sth kth (by decide) (fun _ _ _ => rfl) dX8_throwsIf_17 ?_
      refine lv_if_le (tgt := 27) C.1 C.2.1 dX8_throwsIf_20 (by decide) (fun hc => ?_) (fun hc => ?_)
      · have h := (if_pos hc).symm.trans h
        refine lv_iconst (v := 0) C.1 C.2.1 dX8_throwsIf_27 (by decide) ?_
        exact g_zretB C w hr (by decide) dX8_throwsIf_28 h
      · have h := (if_neg hc).symm.trans h
        refine lv_iconst (v := 1) C.1 C.2.1 dX8_throwsIf_23 (by decide) ?_
        refine lv_goto (tgt := 28) C.1 C.2.1 dX8_throwsIf_24 (by decide) ?_
        exact g_zretB C w hr (by decide) dX8_throwsIf_28 h

set_option maxHeartbeats 4000000 in
set_option maxRecDepth 100000 in
theorem m_X8_bytesOf {l : Launch} {D : va_G} {cA : Nat → ClassId} {B : Nat} {S : Nat → Prop} {σ : GS} {th : Nat} {a1 : Int32} {o : GS} (sth : S th) (kth : kdG th = 8) (h0 : F_X8_bytesOf σ th a1 = some o) : MF l yX8_bytesOf cX8_bytesOf 3 none 0 0 D cA B S [.ref (B + th), .int a1] σ o none := by
  refine MF.of (by decide +kernel) (Nat.le_of_ble_eq_true rfl) ?_
  intro p e s m args below meth c C hr w ls hl
  have hl : lv_has ls 3 [(0, .ref (B + th)), (1, .int a1)] := hl
  have B_3 : ∀ (n3 : Nat) (σ : GS) (v2 : Int32) (H : Heap) (locs : List Loc) (ls : Array Slot), L_X8_bytesOf_3 th a1 n3 σ v2 = some o → WS D cA B S σ s H locs → lv_has ls 3 [(0, .ref (B + th)), (1, .int a1), (2, .int v2)] → W p l e (rmF 0 0) s m args below meth c H locs 0 0 (MQ below (QF D cA B S o none) args s 0 0 (AB B S)) (F0 m 3 ls []) := by
    intro n3
    induction n3 with
    | zero => intro σ v2 H locs ls h; exact nomatch (show (none : Option (GS)) = some o from h)
    | succ n3 ih3 =>
      intro σ v2 H locs ls h  w hl
      unfold L_X8_bytesOf_3 at h
      refine lv_iload_n C.1 C.2.1 dX8_bytesOf_3 rfl (lv_at hl 2 rfl) ?_
      refine lv_if_lt (tgt := 36) C.1 C.2.1 dX8_bytesOf_4 (by decide) (fun hc => ?_) (fun hc => ?_)
      · have h := (if_pos hc).symm.trans h
        exact g_vretV C w hr dX8_bytesOf_36 h
      · have h := (if_neg hc).symm.trans h
        refine lv_aload_n C.1 C.2.1 dX8_bytesOf_7 rfl (lv_at hl 0 rfl) ?_
        refine g_getR C w fl_X8_20 sth kth (by decide) kt_8_4 (fun _ _ _ => rfl) dX8_bytesOf_8 (fun s1 k1 => ?_)
        refine lv_aload_n C.1 C.2.1 dX8_bytesOf_11 rfl (lv_at hl 0 rfl) ?_
        refine g_getI C w fl_X8_74 sth kth (by decide) (fun _ _ _ => rfl) dX8_bytesOf_12 ?_
        refine lv_iload_n C.1 C.2.1 dX8_bytesOf_15 rfl (lv_at hl 1 rfl) ?_
        refine lv_iload_n C.1 C.2.1 dX8_bytesOf_16 rfl (lv_at hl 2 rfl) ?_
        refine lv_ishr C.1 C.2.1 dX8_bytesOf_17 ?_
        refine lv_i2b C.1 C.2.1 dX8_bytesOf_18 rfl ?_
        obtain ⟨hb, h⟩ := g_ob h
        refine g_bast C w s1 k1 hb dX8_bytesOf_19 (fun H locs w => ?_)
        refine lv_aload_n C.1 C.2.1 dX8_bytesOf_20 rfl (lv_at hl 0 rfl) ?_
        refine lv_dup C.1 C.2.1 dX8_bytesOf_21 rfl ?_
        refine g_getI C w fl_X8_74 sth kth (by decide) (fun _ _ _ => rfl) dX8_bytesOf_22 ?_
        refine lv_iconst (v := 1) C.1 C.2.1 dX8_bytesOf_25 (by decide) ?_
        refine lv_iadd C.1 C.2.1 dX8_bytesOf_26 ?_
        refine g_putI C w fw_X8_74 sth kth (by decide) (fun _ _ _ => rfl) rfl rfl dX8_bytesOf_27 (fun H locs w => ?_)
        refine lv_iinc (k := 2) (v := v2 + (-8)) (lv' := [(2, .int (v2 + (-8))), (0, .ref (B + th)), (1, .int a1)]) C.1 C.2.1 dX8_bytesOf_30 hl rfl rfl (by decide) rfl (fun ls hl => ?_)
        refine lv_goto (tgt := 3) C.1 C.2.1 dX8_bytesOf_33 (by decide) ?_
        exact ih3 _ _ _ _ _ h w (show lv_has ls 3 [(0, .ref (B + th)), (1, .int a1), (2, .int (v2 + (-8)))] from lv_sub hl [1, 2, 0] rfl)
  have h := h0
  unfold F_X8_bytesOf at h
  refine lv_bipush (v := 24) C.1 C.2.1 dX8_bytesOf_0 (by decide) ?_
  refine lv_istore_n (lv' := [(2, .int 24), (0, .ref (B + th)), (1, .int a1)]) C.1 C.2.1 dX8_bytesOf_2 rfl hl (by decide) rfl (fun ls hl => ?_)
  exact B_3 _ _ _ _ _ _ h w (show lv_has ls 3 [(0, .ref (B + th)), (1, .int a1), (2, .int 24)] from lv_sub hl [1, 2, 0] rfl)

set_option maxHeartbeats 4000000 in
set_option maxRecDepth 100000 in
theorem m_X8_byteAt {l : Launch} {D : va_G} {cA : Nat → ClassId} {B : Nat} {S : Nat → Prop} {σ : GS} {th : Nat} {a1 : Int32} {o : Int32} (sth : S th) (kth : kdG th = 8) (h0 : F_X8_byteAt σ th a1 = some o) : MF l yX8_byteAt cX8_byteAt 2 (some .int) 0 0 D cA B S [.ref (B + th), .int a1] σ σ (some (.int o)) := by
  refine MF.of (by decide +kernel) (Nat.le_of_ble_eq_true rfl) ?_
  intro p e s m args below meth c C hr w ls hl
  have hl : lv_has ls 2 [(0, .ref (B + th)), (1, .int a1)] := hl
  have h := h0
  unfold F_X8_byteAt at h
  refine lv_iload_n C.1 C.2.1 dX8_byteAt_0 rfl (lv_at hl 1 rfl) ?_
  refine lv_aload_n C.1 C.2.1 dX8_byteAt_1 rfl (lv_at hl 0 rfl) ?_
  refine g_getI C w fl_X8_81 sth kth (by decide) (fun _ _ _ => rfl) dX8_byteAt_2 ?_
  refine lv_icmp_ge (tgt := 21) C.1 C.2.1 dX8_byteAt_5 (by decide) (fun hc => ?_) (fun hc => ?_)
  · have h := (if_pos hc).symm.trans h
    refine lv_iconst (v := (-1)) C.1 C.2.1 dX8_byteAt_21 (by decide) ?_
    exact g_iretP C w hr dX8_byteAt_22 h
  · have h := (if_neg hc).symm.trans h
    refine lv_aload_n C.1 C.2.1 dX8_byteAt_8 rfl (lv_at hl 0 rfl) ?_
    refine g_getR C w fl_X8_20 sth kth (by decide) kt_8_4 (fun _ _ _ => rfl) dX8_byteAt_9 (fun s1 k1 => ?_)
    refine lv_iload_n C.1 C.2.1 dX8_byteAt_12 rfl (lv_at hl 1 rfl) ?_
    obtain ⟨hb, h⟩ := g_ob h
    refine g_bald C w s1 k1 hb dX8_byteAt_13 ?_
    refine lv_sipush (v := 255) C.1 C.2.1 dX8_byteAt_14 (by decide) ?_
    refine lv_iand C.1 C.2.1 dX8_byteAt_17 ?_
    refine lv_goto (tgt := 22) C.1 C.2.1 dX8_byteAt_18 (by decide) ?_
    exact g_iretP C w hr dX8_byteAt_22 h

set_option maxHeartbeats 4000000 in
set_option maxRecDepth 100000 in
theorem m_X8_takesLetters {l : Launch} {D : va_G} {cA : Nat → ClassId} {B : Nat} {S : Nat → Prop} {σ : GS} {th : Nat} {o : GS} (sth : S th) (kth : kdG th = 8) (h0 : F_X8_takesLetters σ th = some o) : MF l yX8_takesLetters cX8_takesLetters 1 none 1 22 D cA B S [.ref (B + th)] σ o none := by
  refine MF.of (by decide +kernel) (Nat.le_of_ble_eq_true rfl) ?_
  intro p e s m args below meth c C hr w ls hl
  have hl : lv_has ls 1 [(0, .ref (B + th))] := hl
  have B_5 : ∀ (n5 : Nat) (σ : GS) (H : Heap) (locs : List Loc) (ls : Array Slot), L_X8_takesLetters_5 th n5 σ = some o → WS D cA B S σ s H locs → lv_has ls 1 [(0, .ref (B + th))] → W p l e (rmF 1 22) s m args below meth c H locs 0 0 (MQ below (QF D cA B S o none) args s 0 0 (AB B S)) (F0 m 5 ls []) := by
    intro n5
    induction n5 with
    | zero => intro σ H locs ls h; exact nomatch (show (none : Option (GS)) = some o from h)
    | succ n5 ih5 =>
      intro σ H locs ls h  w hl
      unfold L_X8_takesLetters_5 at h
      refine lv_aload_n C.1 C.2.1 dX8_takesLetters_5 rfl (lv_at hl 0 rfl) ?_
      refine lv_aload_n C.1 C.2.1 dX8_takesLetters_6 rfl (lv_at hl 0 rfl) ?_
      refine g_getI C w fl_X8_88 sth kth (by decide) (fun _ _ _ => rfl) dX8_takesLetters_7 ?_
      obtain ⟨o2, ho2, h⟩ := g_bd h
      refine g_callV (n := 1) (As := [.int (gI σ th 8)]) (rest := []) C w (m_X8_byteAt sth kth ho2) (cl_8).1 sth kth (by decide) ml_X8_91 iy_X8_byteAt sy_X8_byteAt in_X8 cy_X8_byteAt ⟨rfl, by decide +kernel, by decide +kernel, by decide +kernel⟩ rfl ⟨Nat.le_of_ble_eq_true rfl, Nat.le_of_ble_eq_true rfl⟩ rfl (Nat.le_of_ble_eq_true rfl) hl.1 ⟨Nat.le_of_ble_eq_true rfl, Nat.le_of_ble_eq_true rfl⟩ dX8_takesLetters_10 (fun H locs w => ?_)
      refine lv_bipush (v := 97) C.1 C.2.1 dX8_takesLetters_13 (by decide) ?_
      refine lv_bipush (v := 122) C.1 C.2.1 dX8_takesLetters_15 (by decide) ?_
      obtain ⟨o3, ho3, h⟩ := g_bd h
      refine g_callS (n := 3) (As := [.int o2, .int 97, .int 122]) (rest := []) C w (m_X8_within ho3) ml_X8_95 iy_X8_within in_X8 cy_X8_within ⟨by decide +kernel, by decide +kernel, by decide +kernel⟩ rfl ⟨Nat.le_of_ble_eq_true rfl, Nat.le_of_ble_eq_true rfl⟩ rfl (Nat.le_of_ble_eq_true rfl) hl.1 ⟨Nat.le_of_ble_eq_true rfl, Nat.le_of_ble_eq_true rfl⟩ dX8_takesLetters_17 (fun H locs w => ?_)
      refine lv_if_eq (tgt := 78) C.1 C.2.1 dX8_takesLetters_20 (by decide) (fun hc => ?_) (fun hc => ?_)
      · have h := (if_pos hc).symm.trans h
        exact g_vretV C w hr dX8_takesLetters_78 h
      · have h := (if_neg hc).symm.trans h
        refine lv_aload_n C.1 C.2.1 dX8_takesLetters_23 rfl (lv_at hl 0 rfl) ?_
        refine lv_aload_n C.1 C.2.1 dX8_takesLetters_24 rfl (lv_at hl 0 rfl) ?_
        refine g_getI C w fl_X8_88 sth kth (by decide) (fun _ _ _ => rfl) dX8_takesLetters_25 ?_
        refine lv_aload_n C.1 C.2.1 dX8_takesLetters_28 rfl (lv_at hl 0 rfl) ?_
        refine g_getI C w fl_X8_99 sth kth (by decide) (fun _ _ _ => rfl) dX8_takesLetters_29 ?_
        refine lv_isub C.1 C.2.1 dX8_takesLetters_32 ?_
        refine lv_bipush (v := 8) C.1 C.2.1 dX8_takesLetters_33 (by decide) ?_
        refine lv_icmp_ge (tgt := 58) C.1 C.2.1 dX8_takesLetters_35 (by decide) (fun hc => ?_) (fun hc => ?_)
        · have h := (if_pos hc).symm.trans h
          refine lv_aload_n C.1 C.2.1 dX8_takesLetters_58 rfl (lv_at hl 0 rfl) ?_
          refine g_getL C w fl_X8_84 sth kth (by decide) (fun _ _ _ => rfl) dX8_takesLetters_59 ?_
          refine g_putL C w fw_X8_84 sth kth (by decide) (fun _ _ _ => rfl) rfl rfl dX8_takesLetters_62 (fun H locs w => ?_)
          refine lv_aload_n C.1 C.2.1 dX8_takesLetters_65 rfl (lv_at hl 0 rfl) ?_
          refine lv_dup C.1 C.2.1 dX8_takesLetters_66 rfl ?_
          refine g_getI C w fl_X8_88 sth kth (by decide) (fun _ _ _ => rfl) dX8_takesLetters_67 ?_
          refine lv_iconst (v := 1) C.1 C.2.1 dX8_takesLetters_70 (by decide) ?_
          refine lv_iadd C.1 C.2.1 dX8_takesLetters_71 ?_
          refine g_putI C w fw_X8_88 sth kth (by decide) (fun _ _ _ => rfl) rfl rfl dX8_takesLetters_72 (fun H locs w => ?_)
          refine lv_goto (tgt := 5) C.1 C.2.1 dX8_takesLetters_75 (by decide) ?_
          exact ih5 _ _ _ _ h w (show lv_has ls 1 [(0, .ref (B + th))] from lv_sub hl [0] rfl)
        · have h := (if_neg hc).symm.trans h
          refine lv_aload_n C.1 C.2.1 dX8_takesLetters_38 rfl (lv_at hl 0 rfl) ?_
          refine g_getL C w fl_X8_84 sth kth (by decide) (fun _ _ _ => rfl) dX8_takesLetters_39 ?_
          refine lv_bipush (v := 8) C.1 C.2.1 dX8_takesLetters_42 (by decide) ?_
          refine lv_lshl C.1 C.2.1 dX8_takesLetters_44 rfl ?_
          refine lv_aload_n C.1 C.2.1 dX8_takesLetters_45 rfl (lv_at hl 0 rfl) ?_
          refine lv_aload_n C.1 C.2.1 dX8_takesLetters_46 rfl (lv_at hl 0 rfl) ?_
          refine g_getI C w fl_X8_88 sth kth (by decide) (fun _ _ _ => rfl) dX8_takesLetters_47 ?_
          obtain ⟨o6, ho6, h⟩ := g_bd h
          refine g_callV (n := 1) (As := [.int (gI σ th 8)]) (rest := [.long ((gL σ th 11) <<< ((8 : Int32).toInt64 &&& 63)), .ref (B + th)]) C w (m_X8_byteAt sth kth ho6) (cl_8).1 sth kth (by decide) ml_X8_91 iy_X8_byteAt sy_X8_byteAt in_X8 cy_X8_byteAt ⟨rfl, by decide +kernel, by decide +kernel, by decide +kernel⟩ rfl ⟨Nat.le_of_ble_eq_true rfl, Nat.le_of_ble_eq_true rfl⟩ rfl (Nat.le_of_ble_eq_true rfl) hl.1 ⟨Nat.le_of_ble_eq_true rfl, Nat.le_of_ble_eq_true rfl⟩ dX8_takesLetters_50 (fun H locs w => ?_)
          refine lv_i2l C.1 C.2.1 dX8_takesLetters_53 rfl ?_
          refine lv_lor C.1 C.2.1 dX8_takesLetters_54 ?_
          refine lv_goto (tgt := 62) C.1 C.2.1 dX8_takesLetters_55 (by decide) ?_
          refine g_putL C w fw_X8_84 sth kth (by decide) (fun _ _ _ => rfl) rfl rfl dX8_takesLetters_62 (fun H locs w => ?_)
          refine lv_aload_n C.1 C.2.1 dX8_takesLetters_65 rfl (lv_at hl 0 rfl) ?_
          refine lv_dup C.1 C.2.1 dX8_takesLetters_66 rfl ?_
          refine g_getI C w fl_X8_88 sth kth (by decide) (fun _ _ _ => rfl) dX8_takesLetters_67 ?_
          refine lv_iconst (v := 1) C.1 C.2.1 dX8_takesLetters_70 (by decide) ?_
          refine lv_iadd C.1 C.2.1 dX8_takesLetters_71 ?_
          refine g_putI C w fw_X8_88 sth kth (by decide) (fun _ _ _ => rfl) rfl rfl dX8_takesLetters_72 (fun H locs w => ?_)
          refine lv_goto (tgt := 5) C.1 C.2.1 dX8_takesLetters_75 (by decide) ?_
          exact ih5 _ _ _ _ h w (show lv_has ls 1 [(0, .ref (B + th))] from lv_sub hl [0] rfl)
  have h := h0
  unfold F_X8_takesLetters at h
  refine lv_aload_n C.1 C.2.1 dX8_takesLetters_0 rfl (lv_at hl 0 rfl) ?_
  refine lv_lconst (v := 0) C.1 C.2.1 dX8_takesLetters_1 (by decide) ?_
  refine g_putL C w fw_X8_84 sth kth (by decide) (fun _ _ _ => rfl) rfl rfl dX8_takesLetters_2 (fun H locs w => ?_)
  exact B_5 _ _ _ _ _ h w (show lv_has ls 1 [(0, .ref (B + th))] from lv_sub hl [0] rfl)

